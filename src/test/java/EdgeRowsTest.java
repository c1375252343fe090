/** The boundary cases of rows (section 1, promises 2 to 5), sentence by sentence; their refusals are in RefusalTest. */
public final class EdgeRowsTest {
    private static final int BAD = -1000001, NULL = -1000011, PLACE = -1000012;
    private static final int LEAST = Integer.MIN_VALUE, LARGEST = Integer.MAX_VALUE;

    private static final Due DUE = new Due();

    public static void main(String[] args) {
        missingAtFirst();
        lanesOfItems();
        noneToFortyItems();
        zeroAtFirst();
        inPlaceOfWhatIsThere();
        itemBecomesItsLowestBits();
        oneItemAlone();
        copyAsTheyWereAhead();
        copyUpToTheEnds();
        copyLeavesTheRest();
        dropped();
        DUE.end();
    }

    private static void at(String sentence) {
        DUE.at(sentence);
    }

    private static void is(String call, long got, long want) {
        DUE.is(call, got, want);
    }

    /** A box in which items can be read: a breaker's heat stays, so the one heat that fits is the item. */
    private static FuseBox box() {
        return Due.box("m60;b20;t0,1,0;");
    }

    /** The item, if it is 0 to 9; else 10. */
    private static int item(FuseBox x, int row, int i) {
        return Integer.numberOfTrailingZeros(x.fits(0, row, i, 1, 2) | 1 << 10);
    }

    private static void missingAtFirst() {
        at("ROWS 0 .. 7 are missing (at first)");
        FuseBox x = box();
        is("count(0)", x.count(0), 0);
        for (int row = 0; row < 8; row++) {
            is("drop(" + row + ")", x.drop(row), NULL);
            is("set(" + row + ", 0, 0)", x.set(row, 0, 0), NULL);
            is("copy(" + row + ", ..)", x.copy(row, 0, row, 0, 0), NULL);
            is("fits(0, " + row + ", ..)", x.fits(0, row, 0, 1, 0), NULL);
        }
        for (int row = 0; row < 8; row++) {
            is("row " + row, x.row(row, 0, row), row);
            is("one more is there", x.count(0), row + 1);
        }
        for (int row = 7; row >= 0; row--) {
            is("drop(" + row + ")", x.drop(row), row);
            is("one less is there", x.count(0), row);
        }
    }

    private static void lanesOfItems() {
        at("a LANE (0 bytes, 1 shorts, 2 ints)");
        int[] values = {127, 128, 255, 256, -128, -129, -256, 32767, 32768, 65535, 65536, -32768, -32769, LARGEST, LEAST, -1, 0};
        int[] bytes = {127, -128, -1, 0, -128, 127, 0, -1, 0, -1, 0, 0, -1, -1, 0, -1, 0};
        int[] shorts = {127, 128, 255, 256, -128, -129, -256, 32767, -32768, -1, 0, -32768, 32767, -1, 0, -1, 0};
        FuseBox x = new FuseBox();
        for (int lane = 0; lane < 3; lane++) {
            x.row(lane, lane, 1);
        }
        for (int i = 0; i < values.length; i++) {
            is("a byte becomes " + values[i], x.set(0, 0, values[i]), bytes[i]);
            is("a short becomes " + values[i], x.set(1, 0, values[i]), shorts[i]);
            is("an int becomes " + values[i], x.set(2, 0, values[i]), values[i]);
        }
    }

    private static void noneToFortyItems() {
        at("0 to 40 ITEMS");
        FuseBox x = new FuseBox();
        for (int lane = 0; lane < 3; lane++) {
            is("none", x.row(lane, lane, 0), 0);
            is("no first place", x.set(lane, 0, 0), PLACE);
            is("one", x.row(lane, lane, 1), 1);
            is("the one place", x.set(lane, 0, 5), 5);
            is("no second", x.set(lane, 1, 5), PLACE);
            is("39", x.row(lane, lane, 39), 39);
            is("the last", x.set(lane, 38, 5), 5);
            is("one more", x.set(lane, 39, 5), PLACE);
            is("40", x.row(lane, lane, 40), 40);
            is("the first", x.set(lane, 0, 5), 5);
            is("the last", x.set(lane, 39, 5), 5);
            is("one more", x.set(lane, 40, 5), PLACE);
            is("41", x.row(lane, lane, 41), BAD);
            is("40 are there yet", x.drop(lane), 40);
        }
    }

    private static void allZero(FuseBox x, int row, int n) {
        for (int i = 0; i < n; i++) {
            is("item " + i + " of " + n, item(x, row, i), 0);
        }
        is("none behind", x.set(row, n, 1), PLACE);
    }

    private static void nines(FuseBox x, int row, int n) {
        for (int i = 0; i < n; i++) {
            x.set(row, i, 9);
        }
    }

    private static void zeroAtFirst() {
        at("ITEMS, 0 at first");
        for (int lane = 0; lane < 3; lane++) {
            FuseBox x = box();
            x.row(0, lane, 40);
            allZero(x, 0, 40);
            nines(x, 0, 40);
            is("the last is 9", item(x, 0, 39), 9);
            x.row(0, lane, 3);
            x.row(0, lane, 40);
            allZero(x, 0, 40);
            nines(x, 0, 40);
            x.drop(0);
            x.row(0, lane, 40);
            allZero(x, 0, 40);
        }
    }

    private static void inPlaceOfWhatIsThere() {
        at("A ROW of a LANE with n ITEMS, in place of what is there: n");
        FuseBox x = box();
        is("bytes", x.row(3, 0, 5), 5);
        is("ints", x.row(3, 2, 7), 7);
        is("an int", x.set(3, 6, 300), 300);
        is("shorts", x.row(3, 1, 2), 2);
        is("a short", x.set(3, 1, 65536 + 300), 300);
        is("no third", x.set(3, 2, 0), PLACE);
        is("bytes", x.row(3, 0, 0), 0);
        is("there, but without items", x.set(3, 0, 0), PLACE);
        is("one row", x.count(0), 1);
    }

    private static void itemBecomesItsLowestBits() {
        at("ITEM i becomes v, its lowest bits, as many as the LANE has");
        FuseBox x = box();
        // 261 and 65541 are no heats, so that they are told as 10 where they are kept whole.
        int[][] want = {{5, 5, 5}, {5, 10, 5}, {5, 10, 10}};
        for (int lane = 0; lane < 3; lane++) {
            x.row(lane, lane, 3);
            x.set(lane, 0, 5);
            x.set(lane, 1, 256 + 5);
            x.set(lane, 2, 65536 + 5);
            for (int i = 0; i < 3; i++) {
                is("kept in lane " + lane + ", place " + i, item(x, lane, i), want[lane][i]);
            }
        }
    }

    private static void oneItemAlone() {
        at("ITEM i becomes v (and no other)");
        FuseBox x = box();
        x.row(0, 0, 40);
        x.row(1, 0, 40);
        for (int i : new int[] {0, 19, 39}) {
            x.set(0, i, 7);
            for (int k = 0; k < 40; k++) {
                is("item " + k, item(x, 0, k), k == i ? 7 : 0);
                is("item " + k + " of another row", item(x, 1, k), 0);
            }
            x.set(0, i, 0);
        }
    }

    private static FuseBox counted(int lane) {
        FuseBox x = box();
        x.row(0, lane, 40);
        for (int i = 0; i < 40; i++) {
            x.set(0, i, i * 7 % 10);
        }
        return x;
    }

    private static void copyAsTheyWereAhead() {
        at("n ITEMS of a from i on come to b from j on, as they were ahead");
        int[][] moves = {{0, 1, 39}, {1, 0, 39}, {0, 20, 20}, {20, 0, 20}, {0, 15, 25}, {15, 0, 25}, {0, 0, 40}, {5, 5, 9}, {39, 0, 1}, {0, 39, 1}};
        for (int lane = 0; lane < 3; lane++) {
            for (int[] m : moves) {
                FuseBox x = counted(lane);
                is("copy within", x.copy(0, m[0], 0, m[1], m[2]), m[2]);
                for (int k = 0; k < 40; k++) {
                    int from = k >= m[1] && k < m[1] + m[2] ? k - m[1] + m[0] : k;
                    is("item " + k + " behind a copy of " + m[2] + " from " + m[0] + " to " + m[1], item(x, 0, k), from * 7 % 10);
                }
            }
        }
    }

    private static void copyUpToTheEnds() {
        at("copy: n ITEMS (none, all), PLACE (beyond an end)");
        FuseBox x = counted(2);
        x.row(1, 2, 12);
        x.row(2, 2, 0);
        is("all of the shorter", x.copy(0, 0, 1, 0, 12), 12);
        is("the last twelve", x.copy(0, 28, 1, 0, 12), 12);
        is("item 0", item(x, 1, 0), 28 * 7 % 10);
        is("item 11", item(x, 1, 11), 39 * 7 % 10);
        is("one more", x.copy(0, 28, 1, 0, 13), PLACE);
        is("one on", x.copy(0, 29, 1, 0, 12), PLACE);
        is("into the last", x.copy(0, 0, 1, 11, 1), 1);
        is("item 11", item(x, 1, 11), 0);
        is("behind the last", x.copy(0, 0, 1, 12, 1), PLACE);
        is("none at the very ends", x.copy(0, 40, 1, 12, 0), 0);
        is("none of none", x.copy(2, 0, 2, 0, 0), 0);
        is("none into none", x.copy(0, 40, 2, 0, 0), 0);
        is("one of none", x.copy(2, 0, 0, 0, 1), PLACE);
        is("one into none", x.copy(0, 0, 2, 0, 1), PLACE);
        is("none behind the end of a", x.copy(0, 41, 1, 0, 0), PLACE);
        is("none behind the end of b", x.copy(0, 0, 1, 13, 0), PLACE);
    }

    private static void copyLeavesTheRest() {
        at("copy: n ITEMS alone, and none of a");
        FuseBox x = counted(0);
        x.row(7, 0, 10);
        nines(x, 7, 10);
        is("three", x.copy(0, 1, 7, 4, 3), 3);
        int[] want = {9, 9, 9, 9, 7, 4, 1, 9, 9, 9};
        for (int k = 0; k < 10; k++) {
            is("item " + k, item(x, 7, k), want[k]);
        }
        for (int k = 0; k < 40; k++) {
            is("item " + k + " of a", item(x, 0, k), k * 7 % 10);
        }
        x.set(0, 1, 2);
        is("a copy is one by itself", item(x, 7, 4), 7);
    }

    private static void dropped() {
        at("A ROW is missing from now on: how many ITEMS it had");
        FuseBox x = box();
        for (int n : new int[] {0, 1, 39, 40}) {
            x.row(7, 1, n);
            is("drop(7)", x.drop(7), n);
            is("again", x.drop(7), NULL);
            is("set", x.set(7, 0, 0), NULL);
        }
    }
}
