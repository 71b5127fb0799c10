/** Sentences about KINDS of MEN, the FUND and PITS that name an edge, each with its own test. */
public final class MenEdgesTest {
    private static final int NONE = StrikeDays.NONE;

    public static void main(String[] args) {
        atFirst();
        howManyLeftAndShare();
        thoseWithNothingLeftGoBack();
        noLessThanTheirShare();
        againAndAgain();
        shareOfNoneAndOfAll();
        theFundPaysForEachManOrNot();
        theFundKeepsWhatItHas();
        whoIsBackIsNotPaid();
        kindsWithoutMen();
        leftByABackWay();
        goneOnADay();
        kindsByBits();
        theFirstDayOfAll();
        turnsIfTheyWouldNotElse();
        turnsTheFewestMen();
        turnsByADay();
        turnsWithoutMen();
        daysPaidInARow();
        aPactHolds();
        aPactOfOne();
        whatIsAskedStaysAsItWas();
        Check.close();
    }

    private static StrikeDays of(int[]... kinds) {
        StrikeDays x = new StrikeDays();
        for (int k = 0; k < kinds.length; k++) {
            Check.due("men", x.men(k, kinds[k][0], kinds[k][1], kinds[k][2]), 1);
        }
        return x;
    }

    private static int[] kind(int many, int left, int t) {
        return new int[] {many, left, t};
    }

    private static void goneIs(StrikeDays x, int day, int fund, int in, int men, int kinds) {
        String said = "gone(" + day + ", " + fund + ", " + in + ")";
        Check.due(said, x.gone(day, fund, in), men);
        Check.due(said + " kinds", x.asked(), kinds);
    }

    private static void atFirst() {
        Check.promise("at first none, LEFT 0, t 0");
        StrikeDays x = new StrikeDays();
        long before = x.digest();
        Check.due("MEN in all", x.count(4), 0);
        for (int k = 0; k <= 5; k++) {
            x.men(k, 0, 0, 0);
            Check.due("as told at first", x.digest() == before ? 1 : 0, 1);
        }
        goneIs(x, 1, 0, 0, 0, 0);
        goneIs(x, 99, 9999, 999, 0, 0);
    }

    private static void howManyLeftAndShare() {
        Check.promise("how many (0 .. 99), LEFT for so many days (0 .. 99), and a share t (0 .. 100)");
        StrikeDays x = new StrikeDays();
        for (int k = 0; k <= 5; k++) {
            Check.due("men(" + k + ", 99, 99, 100)", x.men(k, 99, 99, 100), 1);
            Check.due("count(4)", x.count(4), 99 * (k + 1));
        }
        goneIs(x, 99, 0, 0, 0, 0);
        x.men(0, 99, 98, 100);
        goneIs(x, 98, 0, 0, 0, 0);
        goneIs(x, 99, 0, 0, 99, 1);
        Check.due("100 MEN are BAD", x.men(0, 100, 0, 0), StrikeDays.BAD);
        Check.due("LEFT 100 is BAD", x.men(0, 0, 100, 0), StrikeDays.BAD);
        Check.due("t 101 is BAD", x.men(0, 0, 0, 101), StrikeDays.BAD);
        Check.due("all as before", x.count(4), 594);
        Check.due("none of a kind", x.men(0, 0, 99, 100), 1);
        Check.due("count(4)", x.count(4), 495);
    }

    private static void thoseWithNothingLeftGoBack() {
        Check.promise("On each day from 1 on: those with 0 LEFT go BACK");
        for (int left = 0; left <= 98; left += 7) {
            StrikeDays x = of(kind(5, left, 100), kind(6, 99, 100));
            goneIs(x, left + 1, 0, 0, 5, 1);
            if (left > 0) {
                goneIs(x, left, 0, 0, 0, 0);
            }
            goneIs(x, 99, 0, 0, 5, 1);
        }
    }

    private static void noLessThanTheirShare() {
        Check.promise("(100 times BACK is no less than t times all)");
        int[][] backAndAll = {{1, 3}, {1, 2}, {2, 3}, {33, 100}, {50, 101}, {1, 100}, {1, 99}, {99, 198}, {98, 99}};
        for (int[] b : backAndAll) {
            for (int t = 1; t <= 100; t++) {
                int out = b[1] - b[0];
                StrikeDays x = of(kind(b[0], 0, 100), kind(out / 2, 99, t), kind(out - out / 2, 99, t));
                boolean follow = 100 * b[0] >= t * b[1];
                Check.due(b[0] + " of " + b[1] + " by " + t, x.gone(1, 0, 0), follow ? b[1] : b[0]);
            }
        }
        StrikeDays x = of(kind(99, 0, 100), kind(99, 99, 17), kind(99, 99, 34), kind(99, 99, 51),
            kind(99, 99, 67), kind(99, 99, 84));
        // 9900 of 594 MEN are 16 and 2/3 in a hundred.
        Check.due("17 in a hundred", x.gone(1, 0, 0), 99);
        x.men(1, 99, 99, 16);
        Check.due("16 in a hundred", x.gone(1, 0, 0), 198);
        x.men(2, 99, 99, 33);
        Check.due("33 in a hundred", x.gone(1, 0, 0), 297);
        x.men(3, 99, 99, 50);
        // 50, then 66 and 83 that are not 67 and 84.
        Check.due("50 in a hundred, exactly", x.gone(1, 0, 0), 396);
    }

    private static void againAndAgain() {
        Check.promise("then, again and again, each kind");
        // The sixth draws the fifth, and so on to the first; then the other way round.
        StrikeDays x = of(kind(10, 50, 83), kind(10, 50, 66), kind(10, 50, 50), kind(10, 50, 33),
            kind(10, 50, 16), kind(10, 0, 100));
        goneIs(x, 1, 0, 0, 60, 63);
        x = of(kind(10, 0, 100), kind(10, 50, 16), kind(10, 50, 33), kind(10, 50, 50),
            kind(10, 50, 66), kind(10, 50, 83));
        goneIs(x, 1, 0, 0, 60, 63);
        x.men(3, 10, 50, 51);
        goneIs(x, 1, 0, 0, 30, 7);
        // On day 51 all have 0 LEFT.
        goneIs(x, 50, 0, 0, 30, 7);
        goneIs(x, 51, 0, 0, 60, 63);
    }

    private static void shareOfNoneAndOfAll() {
        Check.promise("t in a hundred of all MEN or more are BACK: 0, 100");
        StrikeDays x = of(kind(7, 99, 0), kind(8, 99, 100));
        goneIs(x, 1, 0, 0, 7, 1);
        x.men(0, 7, 99, 1);
        goneIs(x, 1, 0, 0, 0, 0);
        // All others are BACK, but not all MEN.
        x.men(0, 99, 0, 100);
        x.men(1, 1, 99, 100);
        goneIs(x, 98, 0, 0, 99, 1);
        x.men(1, 1, 99, 99);
        goneIs(x, 1, 0, 0, 100, 3);
    }

    private static void theFundPaysForEachManOrNot() {
        Check.promise("the FUND has what comes in a day more, and, if it has 1 for each MAN who is not BACK, pays these");
        StrikeDays x = of(kind(20, 1, 100));
        goneIs(x, 2, 20, 0, 0, 0);
        goneIs(x, 3, 20, 0, 20, 1);
        goneIs(x, 2, 19, 0, 20, 1);
        goneIs(x, 2, 19, 1, 0, 0);
        goneIs(x, 2, 0, 20, 0, 0);
        goneIs(x, 99, 0, 20, 0, 0);
        goneIs(x, 2, 0, 19, 20, 1);
        // What is over is there on the next day: 1 and 19 are 20.
        goneIs(x, 3, 2, 19, 0, 0);
        goneIs(x, 4, 2, 19, 20, 1);
        goneIs(x, 3, 1, 19, 20, 1);
        Check.promise("if not, each kind not BACK has 1 LEFT less");
        x = of(kind(20, 1, 100), kind(1, 2, 100));
        goneIs(x, 2, 20, 0, 20, 1);
        // Then 20 are there for the one man who is left.
        goneIs(x, 3, 20, 0, 20, 1);
        goneIs(x, 22, 20, 0, 20, 1);
        goneIs(x, 23, 20, 0, 21, 3);
    }

    private static void theFundKeepsWhatItHas() {
        Check.promise("(what the FUND has it keeps)");
        // 6 a day for 20 MEN: paid on days 4 (24), 7 (22), 10 (20); LEFT goes on the ten other days till day 13.
        StrikeDays x = of(kind(20, 10, 100));
        Check.due("all(0, 6)", x.all(0, 6), 14);
        Check.due("all(0, 5), paid on days 4, 8, 12", x.all(0, 5), 14);
        Check.due("all(19, 0), never paid", x.all(19, 0), 11);
        Check.due("all(19, 1), paid on day 1", x.all(19, 1), 12);
    }

    private static void whoIsBackIsNotPaid() {
        Check.promise("1 for each MAN who is not BACK");
        StrikeDays x = of(kind(90, 0, 100), kind(9, 1, 100));
        Check.due("9 for 9", x.fund(9, 0), 1);
        Check.due("8 for 9", x.fund(8, 0), 0);
        Check.due("all(9, 0)", x.all(9, 0), 3);
        // Those who follow are not paid either.
        x = of(kind(90, 0, 100), kind(9, 1, 90), kind(1, 1, 100));
        Check.due("1 for 1", x.fund(1, 0), 1);
    }

    private static void kindsWithoutMen() {
        Check.promise("kinds with MEN that are (bits)");
        StrikeDays x = of(kind(0, 0, 0), kind(3, 0, 100), kind(0, 99, 100));
        goneIs(x, 1, 0, 0, 3, 2);
        x.men(0, 1, 0, 0);
        goneIs(x, 1, 0, 0, 4, 3);
        Check.promise("all MEN are BACK (none: 1)");
        x = of(kind(0, 99, 100), kind(0, 99, 100));
        Check.due("none", x.all(0, 0), 1);
        Check.due("none, with a FUND", x.all(9999, 999), 1);
        x.men(1, 4, 0, 100);
        Check.due("a kind without MEN is not waited for", x.all(0, 0), 1);
    }

    private static void leftByABackWay() {
        Check.promise("A kind of MEN LEFT by a SORT and day of a BACK WAY: it.");
        StrikeDays x = of(kind(5, 50, 100));
        x.way(7, 4);
        x.set(7, 0, 1, 99);
        x.set(7, 2, 10, 98);
        Check.due("leftBy(0, 7, 0, 1)", x.leftBy(0, 7, 0, 1), 99);
        Check.due("not till day 99", x.all(0, 0), NONE);
        Check.due("leftBy(0, 7, 2, 10)", x.leftBy(0, 7, 2, 10), 98);
        Check.due("on day 99", x.all(0, 0), 99);
        Check.due("leftBy(0, 7, 1, 5)", x.leftBy(0, 7, 1, 5), 0);
        Check.due("on day 1", x.all(0, 0), 1);
        Check.due("as many MEN", x.count(4), 5);
        x.way(7, 4);
        Check.due("what was LEFT stays LEFT", x.all(0, 0), 1);
        x.men(0, 5, 50, 100);
        Check.due("leftBy(5, 7, 0, 1) of another kind", x.leftBy(5, 7, 0, 1), 0);
        Check.due("the first as before", x.all(0, 0), 51);
    }

    private static void goneOnADay() {
        Check.promise("How many MEN are BACK on a day (1 .. 99) with a FUND (0 .. 9999, in a day 0 .. 999)");
        StrikeDays x = of(kind(99, 98, 100));
        goneIs(x, 99, 0, 0, 99, 1);
        goneIs(x, 99, 98, 0, 99, 1);
        goneIs(x, 99, 99, 0, 0, 0);
        goneIs(x, 99, 9999, 999, 0, 0);
        x = of(kind(99, 0, 100), kind(99, 0, 100), kind(99, 0, 100), kind(99, 0, 100), kind(99, 0, 100),
            kind(99, 1, 100));
        goneIs(x, 1, 0, 0, 495, 31);
        goneIs(x, 2, 0, 0, 594, 63);
        // 9999 pay 99 MEN for 101 days.
        goneIs(x, 99, 9999, 0, 495, 31);
    }

    private static void kindsByBits() {
        Check.promise("Sets are told by bits.");
        for (int set = 0; set < 64; set++) {
            StrikeDays x = new StrikeDays();
            for (int k = 0; k <= 5; k++) {
                x.men(k, k + 1, set >> k & 1, 100);
            }
            x.gone(1, 0, 0);
            Check.due("kinds with 0 LEFT", x.asked(), 63 - set);
        }
    }

    private static void theFirstDayOfAll() {
        Check.promise("The first day (1 .. 99) on which all MEN are BACK; NONE.");
        for (int left = 0; left <= 99; left += 9) {
            StrikeDays x = of(kind(1, left, 100), kind(50, 0, 100));
            Check.due("LEFT " + left, x.all(0, 0), left == 99 ? NONE : left + 1);
        }
        StrikeDays x = of(kind(1, 98, 100));
        Check.due("day 99", x.all(0, 0), 99);
        Check.due("paid for a day", x.all(1, 0), NONE);
        x.men(0, 1, 0, 100);
        Check.due("day 1, whatever the FUND has", x.all(9999, 999), 1);
    }

    private static void turnsIfTheyWouldNotElse() {
        Check.promise("makes all MEN be BACK by a told day, if they would not be else");
        StrikeDays x = of(kind(10, 4, 100), kind(10, 4, 50));
        Check.due("by day 4", x.turns(4), 0);
        Check.due("by day 5 they are BACK", x.turns(5), NONE);
        Check.due("by day 99 they are BACK", x.turns(99), NONE);
        x = of(kind(10, 0, 100));
        Check.due("BACK from day 1 on", x.turns(1), NONE);
        Check.due("no MEN at all", new StrikeDays().turns(1), NONE);
        Check.due("no MEN at all by day 99", new StrikeDays().turns(99), NONE);
        x = of(kind(10, 99, 100), kind(10, 99, 100));
        Check.due("none turns all", x.turns(99), NONE);
        x = of(kind(10, 99, 100));
        Check.due("the only kind turns all", x.turns(99), 0);
        x = of(kind(10, 2, 100), kind(1, 50, 90));
        Check.due("BACK by day 3", x.turns(3), NONE);
        Check.due("by day 2", x.turns(2), 0);
        Check.promise("by a day (1 .. 99) without a FUND");
        // A FUND of 1, or 1 a day, would keep the one man who is left.
        x = of(kind(1, 9, 100));
        Check.due("he goes by himself on day 10", x.turns(10), NONE);
        Check.due("he turns all by day 9", x.turns(9), 0);
        x = of(kind(5, 50, 100), kind(1, 3, 100));
        Check.due("he is BACK on day 4", x.turns(4), 0);
        Check.due("he is not on day 3", x.turns(3), NONE);
    }

    private static void turnsTheFewestMen() {
        Check.promise("The kind that TURNS all: the first, the fewest men");
        for (int fewest = 0; fewest <= 5; fewest++) {
            StrikeDays x = new StrikeDays();
            for (int k = 0; k <= 5; k++) {
                x.men(k, k == fewest ? 9 : 10, 50, 10);
            }
            Check.due("the fewest men", x.turns(1), fewest);
            x.men(fewest, 11, 50, 10);
            Check.due("the first of alike ones", x.turns(1), fewest == 0 ? 1 : 0);
        }
        StrikeDays x = of(kind(0, 50, 0), kind(99, 50, 100));
        Check.due("99 men", x.turns(1), 1);
        x = of(kind(99, 50, 1), kind(98, 50, 1), kind(97, 50, 100));
        // 2 turns 0 and 1; 0 and 1 do not turn 2.
        Check.due("97", x.turns(1), 2);
        x.men(2, 99, 50, 66);
        Check.due("98 turn 99, and these the others", x.turns(1), 1);
    }

    private static void turnsByADay() {
        Check.promise("if it has 0 LEFT from day 1");
        // 10 of 40 from day 1 on, 20 more on day 6: then the last follow.
        StrikeDays x = of(kind(10, 50, 100), kind(20, 5, 100), kind(10, 80, 75));
        Check.due("by day 5", x.turns(5), NONE);
        Check.due("by day 6", x.turns(6), 0);
        Check.due("by day 50", x.turns(50), 0);
        Check.due("by day 51 they are BACK", x.turns(51), NONE);
        Check.due("LEFT stays", x.all(0, 0), 51);
    }

    private static void turnsWithoutMen() {
        Check.promise("(kinds without MEN do not)");
        StrikeDays x = of(kind(0, 50, 100), kind(5, 50, 100), kind(0, 0, 0));
        Check.due("kind 1 alone", x.turns(1), 1);
        x.men(3, 6, 50, 45);
        Check.due("kind 1 turns kind 3", x.turns(1), 1);
        x.men(3, 6, 50, 46);
        Check.due("nor kind 3 kind 1", x.turns(1), NONE);
    }

    private static void daysPaidInARow() {
        Check.promise("How many days a FUND pays in a row from day 1 on (99 at most)");
        StrikeDays x = of(kind(1, 99, 100));
        for (int fund = 0; fund <= 120; fund += 10) {
            Check.due("fund(" + fund + ", 0)", x.fund(fund, 0), Math.min(fund, 99));
        }
        Check.due("fund(98, 0)", x.fund(98, 0), 98);
        Check.due("fund(99, 0)", x.fund(99, 0), 99);
        Check.due("fund(0, 1)", x.fund(0, 1), 99);
        x.men(0, 99, 99, 100);
        Check.due("fund(9999, 0)", x.fund(9999, 0), 99);
        Check.due("fund(9702, 0)", x.fund(9702, 0), 98);
        Check.due("fund(9701, 0)", x.fund(9701, 0), 97);
        Check.due("fund(0, 999)", x.fund(0, 999), 99);
        // Not paid on day 1, though it would be on day 2.
        Check.due("fund(0, 98)", x.fund(0, 98), 0);
        Check.due("fund(1, 98)", x.fund(1, 98), 1);
        // LEFT does not go while it pays, so none is BACK before.
        x.men(0, 10, 1, 100);
        Check.due("fund(30, 0)", x.fund(30, 0), 3);
        x.men(0, 10, 0, 100);
        Check.due("none is to be paid", x.fund(0, 0), 99);
        // On day 1 nobody can be paid: that they are BACK on day 2 does not count.
        x.men(0, 10, 1, 100);
        Check.due("fund(9, 0)", x.fund(9, 0), 0);
    }

    private static void aPactHolds() {
        Check.promise("the pact HOLDS for n days, if for each pit g times n is no less than l times (k less 1)");
        StrikeDays x = new StrikeDays();
        for (int k = 1; k <= 9; k += 2) {
            for (int g = 0; g <= 99; g += 11) {
                for (int l = 0; l <= 99; l += 9) {
                    int need = l * (k - 1);
                    int due = need == 0 ? 1 : g == 0 ? NONE : (need + g - 1) / g;
                    Check.due("pact(" + k + ", " + g + ", " + l + ")", x.pact(k, g, l), due > 99 ? NONE : due);
                }
            }
            x = new StrikeDays();
        }
        Check.promise("For how many days (1 .. 99) at least; NONE.");
        Check.due("99 days are enough", x.pact(2, 1, 99), 99);
        Check.due("99 days are enough for nine", x.pact(9, 8, 99), 99);
        Check.due("100 days would be", x.pact(3, 1, 50), NONE);
        Check.due("792 days would be", x.pact(9, 1, 99), NONE);
        Check.due("as much as is lost", x.pact(3, 10, 5), 1);
        Check.due("one less", x.pact(3, 9, 5), 2);
        Check.due("the most", x.pact(9, 99, 99), 8);
    }

    private static void aPactOfOne() {
        Check.promise("each ... loses l of a day's share, if it alone gives in (k less 1: none)");
        StrikeDays x = new StrikeDays();
        Check.due("one pit", x.pact(1, 0, 99), 1);
        Check.due("one pit that gains", x.pact(1, 99, 99), 1);
        Check.due("nothing to lose", x.pact(9, 0, 0), 1);
        Check.due("nothing to gain", x.pact(2, 0, 1), NONE);
    }

    private static void whatIsAskedStaysAsItWas() {
        Check.promise("gone(), all(), turns(), fund(), pact() change nothing");
        StrikeDays x = of(kind(10, 4, 100), kind(10, 9, 50), kind(5, 0, 0));
        long before = x.digest();
        for (int again = 0; again < 2; again++) {
            goneIs(x, 9, 30, 2, 25, 7);
            Check.due("all", x.all(0, 0), 5);
            Check.due("turns", x.turns(4), 0);
            Check.due("fund", x.fund(45, 0), 2);
            Check.due("pact", x.pact(3, 5, 12), 5);
            Check.due("asked() by gone() alone", x.asked(), 7);
            Check.due("digest()", x.digest() == before ? 1 : 0, 1);
        }
    }
}
