/** Promises 33 to 39: men of kinds, the fund, pits. */
public final class MenTest {
    public static void main(String[] args) {
        men();
        leftBy();
        gone();
        all();
        turns();
        fund();
        pact();
        Check.close();
    }

    private static void men() {
        Check.promise("33 men");
        StrikeDays x = new StrikeDays();
        Check.due("men(0, 99, 99, 100)", x.men(0, 99, 99, 100), 1);
        Check.due("men(5, 1, 0, 0)", x.men(5, 1, 0, 0), 1);
        Check.due("count(4)", x.count(4), 100);
        int[][] bad = {
            {-1, 0, 0, 0}, {6, 0, 0, 0}, {0, -1, 0, 0}, {0, 100, 0, 0},
            {0, 0, -1, 0}, {0, 0, 100, 0}, {0, 0, 0, -1}, {0, 0, 0, 101}
        };
        for (int[] b : bad) {
            Check.due("men of none", x.men(b[0], b[1], b[2], b[3]), StrikeDays.BAD);
        }
        Check.due("count(4) as before", x.count(4), 100);
        Check.due("gone(98, 0, 0)", x.gone(98, 0, 0), 1);
        Check.due("men(0, 0, 0, 0)", x.men(0, 0, 0, 0), 1);
        Check.due("count(4)", x.count(4), 1);
    }

    private static void leftBy() {
        Check.promise("34 leftBy");
        StrikeDays x = new StrikeDays();
        x.men(2, 7, 50, 100);
        x.way(3, 4);
        x.set(3, 2, 10, 4);
        Check.due("leftBy(2, 3, 2, 10)", x.leftBy(2, 3, 2, 10), 4);
        Check.due("all(0, 0)", x.all(0, 0), 5);
        Check.due("leftBy(2, 3, 0, 1)", x.leftBy(2, 3, 0, 1), 0);
        Check.due("all(0, 0)", x.all(0, 0), 1);
        Check.due("count(4)", x.count(4), 7);
        int[][] bad = {
            {-1, 3, 0, 1}, {6, 3, 0, 1}, {0, -1, 0, 1}, {0, 8, 0, 1},
            {0, 3, -1, 1}, {0, 3, 3, 1}, {0, 3, 0, 0}, {0, 3, 0, 11}
        };
        for (int[] b : bad) {
            Check.due("leftBy of none", x.leftBy(b[0], b[1], b[2], b[3]), StrikeDays.BAD);
        }
        Check.finding(x, "leftBy nothing", 0, x.leftBy(0, 0, 0, 1), 1);
        for (int kind = 0; kind < 4; kind++) {
            x.way(0, kind);
            Check.finding(x, "leftBy KIND " + kind, kind, x.leftBy(0, 0, 0, 1), 3);
        }
    }

    private static void goneIs(StrikeDays x, int day, int fund, int in, int men, int kinds) {
        Check.due("gone(" + day + ", " + fund + ", " + in + ")", x.gone(day, fund, in), men);
        Check.due("kinds that are BACK", x.asked(), kinds);
    }

    private static void gone() {
        Check.promise("35 gone");
        StrikeDays x = new StrikeDays();
        goneIs(x, 1, 0, 0, 0, 0);
        x.men(0, 10, 2, 100);
        x.men(2, 10, 5, 50);
        goneIs(x, 1, 0, 0, 0, 0);
        goneIs(x, 2, 0, 0, 0, 0);
        goneIs(x, 3, 0, 0, 20, 5);
        x.men(2, 10, 5, 51);
        goneIs(x, 5, 0, 0, 10, 1);
        goneIs(x, 6, 0, 0, 20, 5);
        goneIs(x, 99, 0, 0, 20, 5);
        // A kind follows one that comes behind it, and draws those ahead of it.
        x.men(0, 1, 50, 40);
        x.men(1, 2, 50, 20);
        x.men(2, 3, 0, 100);
        x.men(3, 9, 50, 100);
        goneIs(x, 1, 0, 0, 3 + 2, 6);
        x.men(1, 3, 50, 18);
        goneIs(x, 1, 0, 0, 3 + 3, 6);
        x.men(0, 1, 50, 37);
        goneIs(x, 1, 0, 0, 7, 7);
        // t 0: none has to be BACK for it.
        x.men(4, 5, 50, 0);
        Check.due("gone by t 0", x.gone(1, 0, 0) >= 5 ? 1 : 0, 1);
        Check.due("gone(0, 0, 0)", x.gone(0, 0, 0), StrikeDays.BAD);
        Check.due("gone(100, 0, 0)", x.gone(100, 0, 0), StrikeDays.BAD);
        refusedFunds(x);
        Check.due("gone(99, 9999, 999)", x.gone(99, 9999, 999) > 0 ? 1 : 0, 1);
    }

    private static void refusedFunds(StrikeDays x) {
        int[][] bad = {{-1, 0}, {10000, 0}, {0, -1}, {0, 1000}};
        for (int[] b : bad) {
            Check.due("gone by a FUND that is none", x.gone(1, b[0], b[1]), StrikeDays.BAD);
            Check.due("all by a FUND that is none", x.all(b[0], b[1]), StrikeDays.BAD);
            Check.due("fund of a FUND that is none", x.fund(b[0], b[1]), StrikeDays.BAD);
        }
    }

    private static void all() {
        Check.promise("36 all");
        StrikeDays x = new StrikeDays();
        Check.due("all of none", x.all(0, 0), 1);
        x.men(0, 20, 2, 100);
        Check.due("all(0, 0)", x.all(0, 0), 3);
        // Days 1 to 3 are paid, then LEFT goes.
        Check.due("all(45, 5)", x.all(45, 5), 6);
        x.men(0, 20, 4, 100);
        // What the FUND keeps on days 4 to 6 is enough for day 7.
        Check.due("all(45, 5) of more LEFT", x.all(45, 5), 9);
        Check.due("all(0, 20)", x.all(0, 20), StrikeDays.NONE);
        x.men(0, 20, 98, 100);
        Check.due("all on day 99", x.all(0, 0), 99);
        x.men(0, 20, 99, 100);
        Check.due("all on day 100", x.all(0, 0), StrikeDays.NONE);
        x.men(1, 5, 0, 100);
        x.men(0, 20, 3, 100);
        // Only those who are not BACK are paid.
        Check.due("all(20, 0) with 5 BACK", x.all(20, 0), 5);
        refusedFunds(x);
        StrikeDays y = new StrikeDays();
        y.men(0, 99, 0, 100);
        y.men(1, 1, 50, 100);
        Check.due("99 in a hundred are not 100", y.gone(1, 0, 0), 99);
        y.men(1, 1, 50, 99);
        Check.due("99 in a hundred are 99", y.gone(1, 0, 0), 100);
        for (int k = 0; k < 6; k++) {
            y.men(k, 10, k == 5 ? 0 : 50, 100 * (5 - k) / 6);
        }
        // One draws the next, the whole row of them on the first day.
        Check.due("all draw each other", y.all(0, 0), 1);
    }

    private static void turns() {
        Check.promise("37 turns");
        StrikeDays x = new StrikeDays();
        Check.due("turns of none", x.turns(1), StrikeDays.NONE);
        x.men(0, 10, 2, 100);
        x.men(1, 10, 5, 50);
        Check.due("turns(2)", x.turns(2), 0);
        Check.due("turns(3), all BACK", x.turns(3), StrikeDays.NONE);
        x.men(0, 10, 50, 10);
        x.men(1, 5, 50, 10);
        x.men(3, 5, 50, 10);
        Check.due("the fewest men, the first", x.turns(1), 1);
        x.men(3, 4, 50, 10);
        Check.due("the fewest men", x.turns(1), 3);
        x.men(3, 1, 50, 10);
        Check.due("too few to turn", x.turns(1), 1);
        x.men(2, 0, 0, 0);
        x.men(3, 5, 50, 100);
        x.men(1, 5, 50, 100);
        Check.due("none turns all", x.turns(49), StrikeDays.NONE);
        Check.due("turns(0)", x.turns(0), StrikeDays.BAD);
        Check.due("turns(100)", x.turns(100), StrikeDays.BAD);
        x.men(1, 0, 50, 10);
        x.men(3, 0, 50, 10);
        Check.due("LEFT stays", x.gone(50, 0, 0), 0);
        Check.due("one kind turns itself", x.turns(50), 0);
        Check.due("turns(51)", x.turns(51), StrikeDays.NONE);
        turnsOfFewAndMany();
    }

    private static void turnsOfFewAndMany() {
        StrikeDays x = new StrikeDays();
        x.men(4, 1, 9, 100);
        Check.due("one man turns all", x.turns(9), 4);
        Check.due("without a FUND he goes by himself", x.turns(10), StrikeDays.NONE);
        x.men(4, 99, 9, 100);
        Check.due("the most men turn all", x.turns(9), 4);
        x.men(3, 1, 9, 99);
        Check.due("99 men turn one, by a day that comes ahead of his", x.turns(9), 4);
        x.men(0, 0, 9, 1);
        x.men(3, 1, 50, 0);
        Check.due("kinds without MEN do not turn", x.turns(9), 4);
        StrikeDays z = new StrikeDays();
        z.men(0, 5, 50, 100);
        z.men(1, 1, 3, 100);
        Check.due("no FUND for the last man", z.turns(4), 0);
        StrikeDays y = new StrikeDays();
        y.men(0, 0, 50, 100);
        y.men(1, 10, 4, 100);
        y.men(2, 1, 9, 50);
        Check.due("kind 1 turns all, and 2 not by day 4", y.turns(4), 1);
        Check.due("all are BACK by day 5", y.turns(5), StrikeDays.NONE);
    }

    private static void fund() {
        Check.promise("38 fund");
        StrikeDays x = new StrikeDays();
        Check.due("fund for none", x.fund(0, 0), 99);
        x.men(0, 20, 50, 100);
        Check.due("fund(45, 5)", x.fund(45, 5), 3);
        Check.due("fund(19, 0)", x.fund(19, 0), 0);
        Check.due("fund(19, 1)", x.fund(19, 1), 1);
        Check.due("fund(20, 0)", x.fund(20, 0), 1);
        Check.due("fund(0, 20)", x.fund(0, 20), 99);
        Check.due("fund(1979, 0)", x.fund(1979, 0), 98);
        Check.due("fund(1980, 0)", x.fund(1980, 0), 99);
        Check.due("fund(9999, 0)", x.fund(9999, 0), 99);
        x.men(1, 99, 0, 100);
        Check.due("fund for those not BACK", x.fund(20, 0), 1);
        x.men(0, 20, 0, 100);
        Check.due("fund with all BACK", x.fund(0, 0), 99);
        refusedFunds(x);
    }

    private static void pact() {
        Check.promise("39 pact");
        StrikeDays x = new StrikeDays();
        Check.due("pact(1, 0, 99)", x.pact(1, 0, 99), 1);
        Check.due("pact(2, 1, 99)", x.pact(2, 1, 99), 99);
        Check.due("pact(3, 1, 50)", x.pact(3, 1, 50), StrikeDays.NONE);
        Check.due("pact(9, 99, 99)", x.pact(9, 99, 99), 8);
        Check.due("pact(4, 7, 5)", x.pact(4, 7, 5), 3);
        Check.due("pact(4, 5, 5)", x.pact(4, 5, 5), 3);
        Check.due("pact(2, 0, 0)", x.pact(2, 0, 0), 1);
        Check.due("pact(2, 0, 1)", x.pact(2, 0, 1), StrikeDays.NONE);
        int[][] bad = {{0, 0, 0}, {10, 0, 0}, {1, -1, 0}, {1, 100, 0}, {1, 0, -1}, {1, 0, 100}};
        for (int[] b : bad) {
            Check.due("pact of none", x.pact(b[0], b[1], b[2]), StrikeDays.BAD);
        }
    }
}
