import java.util.Locale;

/** What all tests need: answers held against those that are due, and calls by plain texts. */
final class Due {
    private int wrong;
    private int checked;
    private String where = "";

    void at(String newWhere) {
        where = newWhere;
    }

    void is(String call, long got, long want) {
        checked++;
        if (got != want) {
            wrong++;
            if (wrong <= 50) {
                System.out.println(where + ": " + call + " answered " + got + ", due is " + want);
            }
        }
    }

    void holds(String what, boolean so) {
        is(what, so ? 1 : 0, 1);
    }

    int wrong() {
        return wrong;
    }

    /** Ends the test: with exit code 1, if an answer was wrong, or if nothing was looked at. */
    void end() {
        System.out.println(String.format(Locale.ROOT, "%d answers looked at, %d wrong", checked, wrong));
        if (wrong > 0 || checked == 0) {
            System.exit(1);
        }
    }

    static void feed(FuseBox box, String text) {
        for (int i = 0; i < text.length(); i++) {
            box.feed(text.charAt(i));
        }
    }

    /** A new box with the house of a text. */
    static FuseBox box(String text) {
        FuseBox box = new FuseBox();
        feed(box, text);
        if (box.house() < 1) {
            throw new IllegalArgumentException("no house: " + text);
        }
        return box;
    }
}
