/** Sentences about ROWS and TEXTS that name an edge, each with its own test. */
public final class RowEdgesTest {
    private static final int MIN = Integer.MIN_VALUE, MAX = Integer.MAX_VALUE;

    public static void main(String[] args) {
        sizesOfRows();
        rowsAreApart();
        layTellsWhatItWas();
        tornRows();
        copyOfAll();
        copyAsIfTakenAhead();
        copyOfNone();
        copyBeyond();
        meanIsCut();
        meanOfTheGreatest();
        meanOfNone();
        sizesOfTexts();
        textsAreApart();
        putCutsToAByte();
        Check.close();
    }

    private static StrikeDays withRow(int... places) {
        StrikeDays x = new StrikeDays();
        x.row(0, places.length);
        for (int i = 0; i < places.length; i++) {
            x.lay(0, i, places[i]);
        }
        return x;
    }

    private static void rowIs(StrikeDays x, int r, int... places) {
        for (int i = 0; i < places.length; i++) {
            Check.told(x, "row " + r + " place " + i, x.lay(r, i, places[i]), places[i]);
        }
        Check.due("row " + r + " ends there", x.lay(r, places.length, 0), StrikeDays.FINDING);
    }

    private static void sizesOfRows() {
        Check.promise("A ROW is there with n ints 0: n.");
        for (int n = 0; n <= 40; n++) {
            StrikeDays x = new StrikeDays();
            Check.due("row(3, n)", x.row(3, n), n);
            rowIs(x, 3, new int[n]);
            Check.due("BEYOND behind the end", x.finding(), 2);
            Check.due("one ROW", x.count(0), 1);
        }
        StrikeDays x = new StrikeDays();
        x.row(0, 40);
        x.lay(0, 0, 5);
        x.lay(0, 39, 6);
        x.row(0, 1);
        x.row(0, 40);
        rowIs(x, 0, new int[40]);
        Check.due("a ROW that is refused stays", x.row(0, 41), StrikeDays.BAD);
        Check.due("a ROW of fewer than none stays", x.row(0, -1), StrikeDays.FINDING);
        Check.told(x, "its last place", x.lay(0, 39, 1), 0);
    }

    private static void rowsAreApart() {
        Check.promise("ROWS 0 .. 5");
        StrikeDays x = new StrikeDays();
        for (int r = 0; r <= 5; r++) {
            x.row(r, 2);
            x.lay(r, 0, 10 + r);
            x.lay(r, 1, 20 + r);
        }
        for (int r = 0; r <= 5; r++) {
            rowIs(x, r, 10 + r, 20 + r);
        }
    }

    private static void layTellsWhatItWas() {
        Check.promise("Place i of a ROW is v: what it was, told by asked(): 1.");
        StrikeDays x = withRow(0);
        int[] laid = {MIN, MAX, -1, 0, 1, 128, 256, 65536, MAX, MIN};
        int before = 0;
        for (int v : laid) {
            Check.told(x, "lay(0, 0, " + v + ")", x.lay(0, 0, v), before);
            before = v;
        }
    }

    private static void tornRows() {
        Check.promise("A ROW is missing: 1.");
        StrikeDays x = new StrikeDays();
        int[] sizes = {0, 1, 40};
        for (int n : sizes) {
            x.row(2, n);
            Check.due("tear(2)", x.tear(2), 1);
            Check.due("count(0)", x.count(0), 0);
            Check.finding(x, "lay", x.findings(1), x.lay(2, 0, 1), 1);
            Check.finding(x, "tear", x.findings(1), x.tear(2), 1);
            Check.finding(x, "copy", x.findings(1), x.copy(2, 0, 2, 0, 0), 1);
            Check.finding(x, "mean", x.findings(1), x.mean(2), 1);
            Check.due("nothing was told", x.asked(), 0);
        }
    }

    private static void copyOfAll() {
        Check.promise("n places of a ROW, from one on, come to those of another one");
        StrikeDays x = new StrikeDays();
        x.row(0, 40);
        x.row(1, 40);
        int[] places = new int[40];
        for (int i = 0; i < 40; i++) {
            places[i] = 100 + i;
            x.lay(0, i, places[i]);
        }
        Check.due("all forty", x.copy(0, 0, 1, 0, 40), 1);
        rowIs(x, 1, places);
        Check.due("all forty to themselves", x.copy(0, 0, 0, 0, 40), 1);
        rowIs(x, 0, places);
        Check.finding(x, "forty-one", x.findings(2), x.copy(0, 0, 1, 0, 41), 2);
        Check.due("the last to the first", x.copy(0, 39, 1, 0, 1), 1);
        Check.told(x, "the first", x.lay(1, 0, 0), 139);
        Check.due("the first to the last", x.copy(0, 0, 1, 39, 1), 1);
        Check.told(x, "the last", x.lay(1, 39, 0), 100);
    }

    private static void copyAsIfTakenAhead() {
        Check.promise("(perhaps itself) from one on, as if taken ahead: 1.");
        StrikeDays x = withRow(1, 2, 3, 4, 5);
        Check.due("one place on", x.copy(0, 0, 0, 1, 4), 1);
        rowIs(x, 0, 1, 1, 2, 3, 4);
        x = withRow(1, 2, 3, 4, 5);
        Check.due("one place back", x.copy(0, 1, 0, 0, 4), 1);
        rowIs(x, 0, 2, 3, 4, 5, 5);
        x = withRow(1, 2, 3, 4, 5);
        Check.due("two places on", x.copy(0, 0, 0, 2, 3), 1);
        rowIs(x, 0, 1, 2, 1, 2, 3);
        x = withRow(1, 2, 3, 4, 5);
        Check.due("two places back", x.copy(0, 2, 0, 0, 3), 1);
        rowIs(x, 0, 3, 4, 5, 4, 5);
    }

    private static void copyOfNone() {
        Check.promise("n places: none");
        StrikeDays x = withRow(7, 8);
        x.row(1, 0);
        Check.due("none of none", x.copy(1, 0, 1, 0, 0), 1);
        Check.due("none to none", x.copy(0, 1, 1, 0, 0), 1);
        Check.due("none from the end to the end", x.copy(0, 2, 0, 2, 0), 1);
        Check.finding(x, "none from behind the end", 0, x.copy(0, 3, 1, 0, 0), 2);
        Check.finding(x, "none to behind the end", 1, x.copy(0, 0, 1, 1, 0), 2);
        Check.finding(x, "one of none", 2, x.copy(1, 0, 0, 0, 1), 2);
        Check.finding(x, "one to none", 3, x.copy(0, 0, 1, 0, 1), 2);
        rowIs(x, 0, 7, 8);
    }

    private static void copyBeyond() {
        Check.promise("BEYOND: not so many there.");
        for (int n = 1; n <= 5; n++) {
            StrikeDays x = withRow(1, 2, 3, 4, 5);
            x.row(1, 5);
            Check.due("the last " + n, x.copy(0, 5 - n, 1, 0, n), 1);
            Check.due("to the last " + n, x.copy(0, 0, 1, 5 - n, n), 1);
            long seen = x.digest();
            Check.finding(x, "one more than the last", 0, x.copy(0, 6 - n, 1, 0, n), 2);
            Check.finding(x, "to one more than the last", 1, x.copy(0, 0, 1, 6 - n, n), 2);
            // Places and numbers that together are beyond an int.
            Check.finding(x, "from MAX", 2, x.copy(0, MAX, 1, 0, n), 2);
            Check.finding(x, "to MAX", 3, x.copy(0, 0, 1, MAX, n), 2);
            Check.finding(x, "MAX of them", 4, x.copy(0, n, 1, 0, MAX), 2);
            Check.finding(x, "MAX of them, on", 5, x.copy(0, 0, 1, n, MAX), 2);
            Check.due("nothing was copied", x.digest() == seen ? 1 : 0, 1);
        }
        StrikeDays x = withRow(1, 2, 3);
        x.row(1, 2);
        Check.finding(x, "three to two", 0, x.copy(0, 0, 1, 0, 3), 2);
        Check.finding(x, "three of two", 1, x.copy(1, 0, 0, 0, 3), 2);
        rowIs(x, 1, 0, 0);
    }

    private static void meanIs(int due, int... places) {
        StrikeDays x = withRow(places);
        Check.told(x, "mean of " + java.util.Arrays.toString(places), x.mean(0), due);
    }

    private static void meanIsCut() {
        Check.promise("The mean of a ROW's ints, cut");
        meanIs(0, 0, 1);
        meanIs(1, 1, 2);
        meanIs(1, 1, 1, 3);
        meanIs(2, 2, 2, 2);
        meanIs(0, 0, -1);
        meanIs(-1, -1, -2);
        meanIs(-1, -1, -1, -3);
        meanIs(-2, -2, -2, -2);
        meanIs(7, 7);
    }

    private static void meanOfTheGreatest() {
        Check.promise("The mean of a ROW's ints");
        meanIs(MAX, MAX);
        meanIs(MIN, MIN);
        meanIs(0, MIN, MAX);
        meanIs(MAX - 1, MAX, MAX, MAX - 1);
        int[] forty = new int[40];
        java.util.Arrays.fill(forty, MAX);
        meanIs(MAX, forty);
        java.util.Arrays.fill(forty, MIN);
        meanIs(MIN, forty);
        forty[39] = MAX;
        // 39 times 2 to the 31st less 2 to the 31st and 1, by 40.
        meanIs((int) ((39L * MIN + MAX) / 40), forty);
    }

    private static void meanOfNone() {
        Check.promise("NOUGHT (shared among none)");
        StrikeDays x = new StrikeDays();
        x.told(3);
        x.row(0, 0);
        Check.finding(x, "mean of an empty ROW", 0, x.mean(0), 4);
        Check.due("asked() stays", x.asked(), 20);
        x.row(0, 1);
        Check.told(x, "mean of one", x.mean(0), 0);
        x.tear(0);
        Check.finding(x, "mean of a missing ROW", 0, x.mean(0), 1);
    }

    private static void sizesOfTexts() {
        Check.promise("A TEXT is there with n blanks: n.");
        for (int n = 0; n <= 60; n++) {
            StrikeDays x = new StrikeDays();
            Check.due("text(1, n)", x.text(1, n), n);
            for (int i = 0; i < n; i++) {
                Check.due("put(1, " + i + ", 5)", x.put(1, i, 5), 1032);
            }
            Check.finding(x, "put behind the end", 0, x.put(1, n, 5), 2);
            Check.due("one TEXT", x.count(1), 1);
            x.text(1, n);
            Check.due("blanks alone: a side has no SORT", x.fault(1), n);
        }
    }

    private static void textsAreApart() {
        Check.promise("TEXTS 0 .. 3");
        StrikeDays x = new StrikeDays();
        for (int t = 0; t <= 3; t++) {
            x.text(t, 60);
            x.put(t, 0, t);
            x.put(t, 59, 10 + t);
        }
        for (int t = 0; t <= 3; t++) {
            Check.due("the first byte", x.put(t, 0, 0), 1000 + t);
            Check.due("the last byte", x.put(t, 59, 0), 1010 + t);
        }
        Check.due("count(1)", x.count(1), 4);
    }

    private static void putCutsToAByte() {
        Check.promise("Byte i of a TEXT is v, cut to a byte: what it was, and 1000 more.");
        int[] put = {127, 128, 129, 255, 256, 257, -1, -127, -128, -129, -256, -257, 383, 384, MAX, MIN, 0x7f80, 0x8000};
        int[] due = {127, -128, -127, -1, 0, 1, -1, -127, -128, 127, 0, -1, 127, -128, -1, 0, -128, 0};
        StrikeDays x = new StrikeDays();
        x.text(0, 1);
        int before = 32;
        for (int i = 0; i < put.length; i++) {
            Check.due("put(0, 0, " + put[i] + ")", x.put(0, 0, put[i]), 1000 + before);
            before = due[i];
        }
        Check.due("put at the end", x.put(0, 0, 0), 1000 + before);
    }
}
