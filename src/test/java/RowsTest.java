/** Promises 1 to 6: a new object, rows. */
public final class RowsTest {
    public static void main(String[] args) {
        newObject();
        row();
        lay();
        tear();
        copy();
        mean();
        Check.close();
    }

    private static void newObject() {
        Check.promise("1 A new object");
        StrikeDays x = new StrikeDays();
        for (int what = 0; what <= 4; what++) {
            Check.due("count(" + what + ")", x.count(what), 0);
        }
        int[] told = {1, 1, 10, 20, 5, 5, 1, 0, 6};
        for (int what = 0; what < told.length; what++) {
            Check.told(x, "told(" + what + ")", x.told(what), told[what]);
        }
        for (int side = 0; side <= 1; side++) {
            Check.told(x, "sort(side, 0, 0)", x.sort(side, 0, 0), 1);
            Check.told(x, "sort(side, 0, 1)", x.sort(side, 0, 1), 1);
            Check.due("sort(side, 1, 0)", x.sort(side, 1, 0), StrikeDays.BAD);
        }
        for (int r = 0; r < 6; r++) {
            Check.due("tear", x.tear(r), StrikeDays.FINDING);
        }
        for (int t = 0; t < 4; t++) {
            Check.due("fault", x.fault(t), StrikeDays.FINDING);
        }
        for (int w = 0; w < 8; w++) {
            Check.due("kind", x.kind(w), StrikeDays.FINDING);
        }
        Check.due("findings(1)", x.findings(1), 18);
    }

    private static void row() {
        Check.promise("2 row");
        StrikeDays x = new StrikeDays();
        Check.due("row(0, 0)", x.row(0, 0), 0);
        Check.due("row(5, 40)", x.row(5, 40), 40);
        Check.due("row(5, 41)", x.row(5, 41), StrikeDays.BAD);
        Check.due("row(-1, 1)", x.row(-1, 1), StrikeDays.BAD);
        Check.due("row(6, -1)", x.row(6, -1), StrikeDays.BAD);
        Check.due("row(MAX, 1)", x.row(Integer.MAX_VALUE, 1), StrikeDays.BAD);
        Check.finding(x, "row(1, -1)", 0, x.row(1, -1), 5);
        Check.finding(x, "row(1, MIN)", 1, x.row(1, Integer.MIN_VALUE), 5);
        Check.due("count(0)", x.count(0), 2);
        x.lay(5, 39, 7);
        x.row(5, 40);
        Check.told(x, "lay behind row anew", x.lay(5, 39, 1), 0);
        x.row(5, 3);
        Check.finding(x, "lay behind a shorter row", 0, x.lay(5, 3, 1), 2);
        Check.due("count(0)", x.count(0), 2);
    }

    private static void lay() {
        Check.promise("3 lay");
        StrikeDays x = new StrikeDays();
        x.row(2, 3);
        Check.told(x, "lay(2, 0, MIN)", x.lay(2, 0, Integer.MIN_VALUE), 0);
        Check.told(x, "lay(2, 0, 4)", x.lay(2, 0, 4), Integer.MIN_VALUE);
        Check.told(x, "lay(2, 2, 9)", x.lay(2, 2, 9), 0);
        Check.due("lay(6, 0, 0)", x.lay(6, 0, 0), StrikeDays.BAD);
        Check.due("lay(-1, 0, 0)", x.lay(-1, 0, 0), StrikeDays.BAD);
        Check.finding(x, "lay(3, 0, 0)", 0, x.lay(3, 0, 0), 1);
        Check.finding(x, "lay(3, -1, 0)", 1, x.lay(3, -1, 0), 1);
        Check.finding(x, "lay(2, 3, 0)", 0, x.lay(2, 3, 0), 2);
        Check.finding(x, "lay(2, -1, 0)", 1, x.lay(2, -1, 0), 2);
        Check.finding(x, "lay(2, MAX, 0)", 2, x.lay(2, Integer.MAX_VALUE, 0), 2);
        Check.told(x, "lay(2, 2, 0)", x.lay(2, 2, 0), 9);
    }

    private static void tear() {
        Check.promise("4 tear");
        StrikeDays x = new StrikeDays();
        x.row(0, 5);
        x.lay(0, 1, 8);
        Check.due("tear(0)", x.tear(0), 1);
        Check.due("count(0)", x.count(0), 0);
        Check.finding(x, "tear(0) again", 0, x.tear(0), 1);
        Check.due("tear(6)", x.tear(6), StrikeDays.BAD);
        Check.due("tear(-1)", x.tear(-1), StrikeDays.BAD);
        x.row(0, 5);
        Check.told(x, "lay behind tear and row", x.lay(0, 1, 1), 0);
    }

    private static void copy() {
        Check.promise("5 copy");
        StrikeDays x = new StrikeDays();
        x.row(0, 5);
        for (int i = 0; i < 5; i++) {
            x.lay(0, i, 10 + i);
        }
        Check.due("copy forward in itself", x.copy(0, 0, 0, 1, 4), 1);
        rowIs(x, 0, 10, 10, 11, 12, 13);
        Check.due("copy back in itself", x.copy(0, 2, 0, 0, 3), 1);
        rowIs(x, 0, 11, 12, 13, 12, 13);
        x.row(1, 2);
        Check.due("copy to another", x.copy(0, 3, 1, 0, 2), 1);
        rowIs(x, 1, 12, 13);
        Check.due("copy of none at the end", x.copy(0, 5, 1, 2, 0), 1);
        Check.finding(x, "copy of none beyond", 0, x.copy(0, 6, 1, 0, 0), 2);
        Check.finding(x, "copy of none to beyond", 1, x.copy(0, 0, 1, 3, 0), 2);
        Check.finding(x, "copy of too many", 2, x.copy(0, 4, 1, 0, 2), 2);
        Check.finding(x, "copy to too few", 3, x.copy(0, 0, 1, 1, 2), 2);
        Check.finding(x, "copy from below", 4, x.copy(0, -1, 1, 0, 1), 2);
        Check.finding(x, "copy to below", 5, x.copy(0, 0, 1, -1, 1), 2);
        Check.finding(x, "copy from MAX", 6, x.copy(0, Integer.MAX_VALUE, 1, 0, 2), 2);
        Check.finding(x, "copy of MAX", 7, x.copy(0, 1, 0, 1, Integer.MAX_VALUE), 2);
        Check.finding(x, "copy of fewer than none", 0, x.copy(5, 0, 5, 0, -1), 5);
        Check.finding(x, "copy from nothing", 0, x.copy(5, 9, 0, 0, 1), 1);
        Check.finding(x, "copy to nothing", 1, x.copy(0, 9, 5, 0, 1), 1);
        Check.due("copy from 6", x.copy(6, 0, 0, 0, -1), StrikeDays.BAD);
        Check.due("copy to -1", x.copy(0, 0, -1, 0, 1), StrikeDays.BAD);
        rowIs(x, 0, 11, 12, 13, 12, 13);
        rowIs(x, 1, 12, 13);
    }

    private static void rowIs(StrikeDays x, int r, int... places) {
        for (int i = 0; i < places.length; i++) {
            Check.told(x, "row " + r + " place " + i, x.lay(r, i, places[i]), places[i]);
        }
    }

    private static void mean() {
        Check.promise("6 mean");
        StrikeDays x = new StrikeDays();
        x.row(0, 2);
        x.lay(0, 0, -5);
        x.lay(0, 1, 2);
        Check.told(x, "mean(0) of -5, 2", x.mean(0), -1);
        x.lay(0, 0, Integer.MAX_VALUE);
        x.lay(0, 1, Integer.MAX_VALUE);
        Check.told(x, "mean(0) of MAX, MAX", x.mean(0), Integer.MAX_VALUE);
        x.lay(0, 0, Integer.MIN_VALUE);
        x.lay(0, 1, Integer.MIN_VALUE);
        Check.told(x, "mean(0) of MIN, MIN", x.mean(0), Integer.MIN_VALUE);
        x.row(3, 1);
        x.lay(3, 0, 9);
        Check.told(x, "mean(3) of one", x.mean(3), 9);
        x.row(4, 40);
        x.lay(4, 39, 40);
        Check.told(x, "mean(4) of forty", x.mean(4), 1);
        x.row(1, 0);
        Check.finding(x, "mean(1) of none", 0, x.mean(1), 4);
        Check.finding(x, "mean(2)", 0, x.mean(2), 1);
        Check.due("mean(6)", x.mean(6), StrikeDays.BAD);
        Check.due("mean(-1)", x.mean(-1), StrikeDays.BAD);
        Check.due("asked() as before", x.asked(), 1);
    }
}
