/** Boxes in which much can be told apart, each made anew. */
final class Boxes {
    private Boxes() {
    }

    static FuseBox some() {
        return box("m30;w5;b4;c3;t0,8,1;t1,5,1;t2,2,1;t0,2,0;t1,1,1;");
    }

    static FuseBox all() {
        return box("m60;w5;b4;c3;q9;t0,8,1;t1,5,1;t2,2,1;t0,2,0;t3,1,1;t3,4,1;");
    }

    static FuseBox mainOut() {
        return box("m5;w5;b4;t0,8,1;t1,5,1;");
    }

    /** Rows of all lanes, a fault, an image, acts, a trace, bytes on the tape, line 1 dead; status() is 2. */
    private static FuseBox box(String text) {
        FuseBox x = new FuseBox();
        Due.feed(x, "m9;w0");
        x.house();
        Due.feed(x, text);
        x.house();
        fill(x, 0, 0, 12);
        fill(x, 1, 1, 40);
        fill(x, 2, 2, 40);
        fill(x, 3, 2, 0);
        fill(x, 4, 0, 40);
        fill(x, 6, 1, 3);
        x.image(0);
        x.minutes(2);
        x.turn(0, 0);
        x.turn(0, 1);
        x.rate(0, 7);
        x.minutes(1);
        x.ask(0, 0);
        x.feed('m');
        x.feed('7');
        x.set(0, 12, 0);
        return x;
    }

    private static void fill(FuseBox x, int row, int lane, int n) {
        x.row(row, lane, n);
        for (int i = 0; i < 10 && i < n; i++) {
            x.set(row, i, (i * 3 + row) % 10);
        }
        for (int i = 10; i < n; i += 10) {
            x.copy(row, i - 10, row, i, Math.min(10, n - i));
        }
    }
}
