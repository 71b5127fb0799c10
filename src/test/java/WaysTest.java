/** Promises 15 to 20: ways and their numbers. */
public final class WaysTest {
    public static void main(String[] args) {
        way();
        set();
        setAll();
        at();
        kind();
        mark();
        Check.close();
    }

    private static void way() {
        Check.promise("15 way");
        StrikeDays x = new StrikeDays();
        Check.due("way(0, 0)", x.way(0, 0), 1);
        Check.due("way(7, 4)", x.way(7, 4), 1);
        Check.due("way(8, 0)", x.way(8, 0), StrikeDays.BAD);
        Check.due("way(-1, 0)", x.way(-1, 0), StrikeDays.BAD);
        Check.due("way(0, 5)", x.way(0, 5), StrikeDays.BAD);
        Check.due("way(0, -1)", x.way(0, -1), StrikeDays.BAD);
        Check.due("count(2)", x.count(2), 2);
        x.set(7, 2, 10, 99);
        Check.due("way(7, 1)", x.way(7, 1), 1);
        Check.due("numbers are 0 anew", x.at(7, 2, 10), 0);
        Check.due("kind(7)", x.kind(7), 1);
        Check.due("count(2)", x.count(2), 2);
    }

    private static void set() {
        Check.promise("16 set");
        int[] greatest = {99, 12, 13, 13, 99};
        StrikeDays x = new StrikeDays();
        int unlike = 0;
        for (int kind = 0; kind <= 4; kind++) {
            x.way(kind, kind);
            int top = greatest[kind];
            Check.due("set top of KIND " + kind, x.set(kind, 0, 1, top), 0);
            Check.finding(x, "set above KIND " + kind, unlike++, x.set(kind, 0, 1, top + 1), 3);
            Check.finding(x, "set below KIND " + kind, unlike++, x.set(kind, 0, 1, -1), 3);
            Check.due("set 0 of KIND " + kind, x.set(kind, 0, 1, 0), top);
        }
        Check.due("set(1, 2, 10, 5)", x.set(1, 2, 10, 5), 0);
        Check.due("set(1, 2, 10, 6)", x.set(1, 2, 10, 6), 5);
        Check.due("set(8, 0, 1, 0)", x.set(8, 0, 1, 0), StrikeDays.BAD);
        Check.due("set(-1, 0, 1, 0)", x.set(-1, 0, 1, 0), StrikeDays.BAD);
        Check.due("set(1, 3, 1, 0)", x.set(1, 3, 1, 0), StrikeDays.BAD);
        Check.due("set(1, -1, 1, 0)", x.set(1, -1, 1, 0), StrikeDays.BAD);
        Check.due("set(1, 0, 0, 0)", x.set(1, 0, 0, 0), StrikeDays.BAD);
        Check.due("set(1, 0, 11, 99)", x.set(1, 0, 11, 99), StrikeDays.BAD);
        Check.finding(x, "set(7, 0, 1, -1)", 0, x.set(7, 0, 1, -1), 1);
    }

    private static void setAll() {
        Check.promise("17 setAll");
        StrikeDays x = new StrikeDays();
        x.way(0, 1);
        x.row(0, 10);
        for (int i = 0; i < 10; i++) {
            x.lay(0, i, 256 * i + i);
        }
        Check.due("setAll(0, 2, 0)", x.setAll(0, 2, 0), 1);
        Check.numbersAre(x, 0, 2, 0, 1, 2, 3, 4, 5, 6, 7, 8, 9);
        Check.numbersAre(x, 0, 1, 0, 0, 0, 0, 0, 0, 0, 0, 0, 0);
        x.lay(0, 0, 13);
        Check.finding(x, "setAll with 13 on day 1 of an OFFER", 0, x.setAll(0, 2, 0), 3);
        x.lay(0, 0, 3);
        x.lay(0, 9, 13);
        Check.finding(x, "setAll with 13 of an OFFER", 1, x.setAll(0, 2, 0), 3);
        Check.due("nothing changed", x.at(0, 2, 1), 0);
        x.lay(0, 9, 12);
        Check.due("setAll(0, 2, 0)", x.setAll(0, 2, 0), 1);
        Check.numbersAre(x, 0, 2, 3, 1, 2, 3, 4, 5, 6, 7, 8, 12);
        x.lay(0, 9, 13);
        x.way(1, 2);
        Check.due("setAll with 13 of a TAKE", x.setAll(1, 0, 0), 1);
        x.lay(0, 9, 14);
        Check.finding(x, "setAll with 14 of a TAKE", 2, x.setAll(1, 0, 0), 3);
        x.way(2, 4);
        x.lay(0, 9, 99);
        Check.due("setAll with 99 of a BACK", x.setAll(2, 0, 0), 1);
        x.lay(0, 9, 100);
        Check.finding(x, "setAll with 100 of a BACK", 3, x.setAll(2, 0, 0), 3);
        x.lay(0, 9, 128);
        Check.finding(x, "setAll with -128", 4, x.setAll(2, 0, 0), 3);
        x.lay(0, 9, -256);
        Check.due("setAll with -256, which is 0", x.setAll(2, 0, 0), 1);
        Check.due("at(2, 0, 10)", x.at(2, 0, 10), 0);
        x.row(1, 9);
        x.row(2, 11);
        Check.finding(x, "setAll by nine", 0, x.setAll(0, 0, 1), 5);
        Check.finding(x, "setAll by eleven", 1, x.setAll(0, 0, 2), 5);
        Check.finding(x, "setAll by nothing", 0, x.setAll(0, 0, 3), 1);
        Check.finding(x, "setAll of nothing", 1, x.setAll(7, 0, 1), 1);
        Check.due("setAll(8, 0, 0)", x.setAll(8, 0, 0), StrikeDays.BAD);
        Check.due("setAll(-1, 0, 0)", x.setAll(-1, 0, 0), StrikeDays.BAD);
        Check.due("setAll(0, 3, 0)", x.setAll(0, 3, 0), StrikeDays.BAD);
        Check.due("setAll(0, -1, 0)", x.setAll(0, -1, 0), StrikeDays.BAD);
        Check.due("setAll(0, 0, 6)", x.setAll(0, 0, 6), StrikeDays.BAD);
        Check.due("setAll(0, 0, -1)", x.setAll(0, 0, -1), StrikeDays.BAD);
    }

    private static void at() {
        Check.promise("18 at");
        StrikeDays x = new StrikeDays();
        x.way(3, 0);
        x.set(3, 0, 10, 11);
        x.set(3, 1, 1, 12);
        x.set(3, 2, 10, 13);
        Check.due("at(3, 0, 10)", x.at(3, 0, 10), 11);
        Check.due("at(3, 1, 1)", x.at(3, 1, 1), 12);
        Check.due("at(3, 2, 10)", x.at(3, 2, 10), 13);
        Check.due("at(3, 2, 9)", x.at(3, 2, 9), 0);
        Check.due("at(3, 3, 1)", x.at(3, 3, 1), StrikeDays.BAD);
        Check.due("at(3, -1, 1)", x.at(3, -1, 1), StrikeDays.BAD);
        Check.due("at(3, 0, 0)", x.at(3, 0, 0), StrikeDays.BAD);
        Check.due("at(3, 0, 11)", x.at(3, 0, 11), StrikeDays.BAD);
        Check.due("at(8, 0, 1)", x.at(8, 0, 1), StrikeDays.BAD);
        Check.due("at(-1, 0, 1)", x.at(-1, 0, 1), StrikeDays.BAD);
        Check.finding(x, "at(0, 0, 1)", 0, x.at(0, 0, 1), 1);
    }

    private static void kind() {
        Check.promise("19 kind");
        StrikeDays x = new StrikeDays();
        for (int kind = 0; kind <= 4; kind++) {
            x.way(kind + 3, kind);
            Check.due("kind of KIND " + kind, x.kind(kind + 3), kind);
        }
        Check.finding(x, "kind(0)", 0, x.kind(0), 1);
        Check.due("kind(8)", x.kind(8), StrikeDays.BAD);
        Check.due("kind(-1)", x.kind(-1), StrikeDays.BAD);
    }

    private static void mark() {
        Check.promise("20 mark");
        StrikeDays x = Check.quarrelOf("m2,1m1,1m1,1o1,1");
        for (int kind = 0; kind <= 4; kind++) {
            x.way(kind, kind);
        }
        Check.due("mark of an OFFER of nothing", x.mark(1, 1), 0);
        x.set(1, 2, 10, 11);
        x.set(1, 0, 3, 4);
        Check.due("mark of an OFFER", x.mark(1, 1), 11);
        for (int sort = 0; sort < 3; sort++) {
            Check.numbers(x, 2, sort, 13, 13, 13, 13, 13, 13, 13, 13, 13, 13);
            Check.numbers(x, 3, sort, 9, 9, 9, 9, 9, 9, 9, 9, 9, 9);
        }
        Check.due("mark of a TAKE without other numbers", x.mark(2, 2), 13);
        x.set(2, 2, 9, 6);
        Check.due("mark of a TAKE", x.mark(2, 2), 6);
        x.set(3, 1, 10, 7);
        Check.due("mark of a VOTE as a TAKE", x.mark(3, 2), 7);
        Check.due("mark of a VOTE", x.mark(3, 3), 2);
        x.set(4, 0, 1, 99);
        x.set(4, 2, 10, 98);
        x.set(4, 1, 5, 97);
        Check.due("mark of a BACK", x.mark(4, 4), 294);
        int unlike = 0;
        for (int w = 0; w <= 4; w++) {
            for (int kind = 1; kind <= 4; kind++) {
                if (w != kind && !(w == 3 && kind == 2)) {
                    Check.finding(x, "mark(" + w + ", " + kind + ")", unlike++, x.mark(w, kind), 3);
                }
            }
        }
        Check.due("mark(0, 0)", x.mark(0, 0), StrikeDays.BAD);
        Check.due("mark(1, 5)", x.mark(1, 5), StrikeDays.BAD);
        Check.due("mark(8, 1)", x.mark(8, 1), StrikeDays.BAD);
        Check.due("mark(-1, 1)", x.mark(-1, 1), StrikeDays.BAD);
        Check.finding(x, "mark(7, 1)", 0, x.mark(7, 1), 1);
        sortsToCarry("m1,1o1,1", 1);
        sortsToCarry("m5,1m1,1o1,1", 1);
        sortsToCarry("m2,1m2,1m2,1o1,1", 2);
        sortsToCarry("m9,1m5,1m4,1o1,1", 2);
        sortsToCarry("m1,1m1,1o1,1", 2);
        sortsToCarry("m1,1m2,1o1,1", 1);
        sortsToCarry("m1,1m1,1m1,1o1,1", 2);
        sortsToCarry("m1,1m1,1m3,1o1,1", 1);
        sortsToCarry("m1,1m4,1m3,1o1,1", 2);
    }

    private static void sortsToCarry(String signs, int due) {
        StrikeDays x = Check.quarrelOf(signs);
        x.way(0, 3);
        Check.due("mark of a VOTE by " + signs, x.mark(0, 3), due);
    }
}
