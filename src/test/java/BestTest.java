/** Promises 25 to 28: the best way against a way, rest, answers and replies. */
public final class BestTest {
    public static void main(String[] args) {
        best();
        bestOfTenDays();
        bestOfManySorts();
        bestIsNoLessThanAnyPlan();
        rest();
        answer();
        reply();
        Check.close();
    }

    private static void best() {
        Check.promise("25 best");
        StrikeDays x = RunsTest.small();
        Check.fraction(x, "best of MEN 0", x.best(0, 0, 0), 54, 1);
        Check.fraction(x, "best of MEN 1", x.best(0, 0, 1), 50, 1);
        // 3 on day 1 for two of three (70), then 4 on day 3 for the third (44).
        Check.fraction(x, "best of OWNERS", x.best(1, 1, 0), 184, 3);
        x.notice(2);
        // 3 on day 2 (61) for two, then 4 on day 3 (44).
        Check.fraction(x, "best of OWNERS from NOTICE on", x.best(1, 1, 0), 166, 3);
        x.judge(12, 3);
        Check.fraction(x, "best of MEN with a sure JUDGE", x.best(0, 0, 1), 30, 1);
        Check.fraction(x, "best of OWNERS with a sure JUDGE", x.best(1, 1, 0), 70, 1);
        x.notice(4);
        x.judge(6, 6);
        Check.fraction(x, "best of MEN, never offered", x.best(0, 0, 1), 403, 8);
        Check.due("best of MEN 2", x.best(0, 0, 2), StrikeDays.BAD);
        Check.due("best of MEN -1", x.best(0, 0, -1), StrikeDays.BAD);
        Check.due("best of OWNERS 1", x.best(1, 1, 1), StrikeDays.BAD);
        Check.due("best of side 2", x.best(1, 2, 0), StrikeDays.BAD);
        Check.due("best of side -1", x.best(1, -1, 0), StrikeDays.BAD);
        Check.due("best against 8", x.best(8, 0, 0), StrikeDays.BAD);
        Check.due("best against -1", x.best(-1, 0, 0), StrikeDays.BAD);
        Check.finding(x, "best against nothing", 0, x.best(7, 0, 0), 1);
        Check.finding(x, "best of MEN against a TAKE", 0, x.best(1, 0, 0), 3);
        Check.finding(x, "best of OWNERS against an OFFER", 1, x.best(0, 1, 0), 3);
        x.way(2, 3);
        Check.finding(x, "best of OWNERS against a VOTE", 2, x.best(2, 1, 0), 3);
        x.way(2, 0);
        Check.finding(x, "best of MEN against a plan", 3, x.best(2, 0, 0), 3);
        Check.due("upper() as before", x.upper(), 403);
    }

    /** The greatest LAST day, and offers of 0 and 12. */
    private static void bestOfTenDays() {
        Check.promise("25 to 28 of ten days");
        StrikeDays x = Check.quarrelOf("m1,0 o1,0 v20 h40 l10 w0");
        x.way(0, 1);
        x.way(1, 2);
        x.set(0, 0, 10, 12);
        Check.fraction(x, "12 on the tenth day", x.best(0, 0, 0), 12 * 31, 1);
        Check.numbers(x, 1, 0, 13, 13, 13, 13, 13, 13, 13, 13, 13, 12);
        Check.fraction(x, "12 by OWNERS on the tenth day", x.best(1, 1, 0), 20 * 30, 1);
        Check.due("not taken ahead of nothing", x.rest(0, 1), 10);
        Check.due("answer is 0", x.answer(0, 1), 1);
        Check.numbersAre(x, 0, 0, 0, 0, 0, 0, 0, 0, 0, 0, 0, 0);
        x = Check.quarrelOf("m1,0 o1,0 v20 h40 l10 w12");
        x.way(0, 1);
        x.way(1, 2);
        Check.numbers(x, 1, 0, 13, 13, 13, 13, 13, 13, 13, 13, 13, 12);
        Check.fraction(x, "12 on the tenth day, or behind it", x.best(1, 1, 0), 8 * 31, 1);
        Check.due("answer is 12", x.answer(0, 1), 1);
        Check.numbersAre(x, 0, 0, 0, 0, 0, 0, 0, 0, 0, 0, 0, 12);
        Check.due("reply is 12", x.reply(1, 0), 0);
        Check.due("at rest", x.rest(0, 1), StrikeDays.NONE);
        x.set(0, 0, 10, 0);
        Check.due("reply is never", x.reply(1, 0), 1);
        Check.numbersAre(x, 1, 0, 13, 13, 13, 13, 13, 13, 13, 13, 13, 13);
        x = Check.quarrelOf("m1,0 o1,0 v20 h40 l10 w0");
        x.way(0, 1);
        x.way(1, 2);
        Check.due("reply is 0", x.reply(1, 0), 0);
        Check.fraction(x, "nothing at all", x.best(0, 0, 0), 0, 1);
    }

    /** Two SORTS of OWNERS: on day 2 the one offers 9, the other one 0; on day 1 both 3. */
    private static StrikeDays pooled() {
        StrikeDays x = Check.quarrelOf("m1,0 o1,0 o1,0 v10 h10 l2 w0");
        x.way(0, 1);
        Check.numbers(x, 0, 0, 3, 9);
        Check.numbers(x, 0, 1, 3, 0);
        x.way(1, 2);
        return x;
    }

    private static void bestOfManySorts() {
        Check.promise("25 best by what is seen");
        StrikeDays x = pooled();
        Check.fraction(x, "alike on day 1: go on", x.best(0, 0, 0), 81, 2);
        x.set(0, 1, 1, 2);
        Check.fraction(x, "told apart on day 1: take 2, refuse 3", x.best(0, 0, 0), 101, 2);
        x.notice(2);
        Check.fraction(x, "day 1 is not seen", x.best(0, 0, 0), 81, 2);
    }

    private static StrikeDays forPlans() {
        StrikeDays x = Check.quarrelOf("m3,2 m2,7 m4,1 o1,4 v12 h9 l3 w4");
        x.judge(2, 5);
        x.way(0, 1);
        x.way(1, 2);
        Check.numbers(x, 1, 0, 7, 6, 2);
        Check.numbers(x, 1, 1, 4, 4, 6);
        Check.numbers(x, 1, 2, 9, 3, 8);
        return x;
    }

    /** Each of all plans of three days is worth no more than BEST, and one as much. */
    private static void bestIsNoLessThanAnyPlan() {
        Check.promise("25 best over all plans");
        StrikeDays x = forPlans();
        x.best(1, 1, 0);
        double best = (double) x.upper() / x.lower();
        double most = -1e9;
        for (int plan = 0; plan < 13 * 13 * 13; plan++) {
            // An object is used for at most 512 calls, and a plan takes six.
            if (plan % 64 == 0) {
                x = forPlans();
            }
            Check.numbers(x, 0, 0, plan % 13, plan / 13 % 13, plan / 169);
            x.worth(0, 1, 1, 0);
            most = Math.max(most, (double) x.upper() / x.lower());
        }
        Check.due("BEST is the greatest WORTH", Math.abs(best - most) < 1e-9 ? 1 : 0, 1);
        x = forPlans();
        x.answer(0, 1);
        x.worth(0, 1, 1, 0);
        Check.due("answer() has it", Math.abs(best - (double) x.upper() / x.lower()) < 1e-9 ? 1 : 0, 1);
    }

    private static void rest() {
        Check.promise("26 rest");
        StrikeDays x = RunsTest.small();
        Check.due("MEN 1 would rather wait", x.rest(0, 1), 1);
        x.set(1, 0, 3, 13);
        Check.due("MEN 0 would rather take", x.rest(0, 1), 0);
        Check.numbers(x, 0, 0, 0, 0, 4);
        Check.numbers(x, 1, 0, 13, 13, 4);
        Check.numbers(x, 1, 1, 13, 13, 4);
        Check.due("4 on day 3 is best for all", x.rest(0, 1), StrikeDays.NONE);
        x.set(1, 1, 3, 3);
        // 52 for two of three and 36 by the end for the third are more than 44.
        Check.due("OWNERS 0 would rather offer 3", x.rest(0, 1), 10);
        x.judge(12, 5);
        Check.due("a sure JUDGE leaves nothing to do", x.rest(0, 1), StrikeDays.NONE);
        StrikeDays y = Check.quarrelOf("m1,0 o1,0 o1,0 v10 h10 l2 w0");
        y.way(0, 1);
        Check.numbers(y, 0, 1, 1, 1);
        y.way(1, 2);
        Check.numbers(y, 1, 0, 0, 0);
        Check.due("MEN would not take 0 ahead of 0", y.rest(0, 1), 11);
        x.way(2, 3);
        Check.finding(x, "rest of a VOTE", 0, x.rest(0, 2), 3);
    }

    private static void answer() {
        Check.promise("27 answer");
        StrikeDays x = RunsTest.small();
        x.set(0, 0, 9, 4);
        Check.numbers(x, 0, 1, 8, 8);
        Check.due("answer(0, 1)", x.answer(0, 1), 4);
        Check.numbersAre(x, 0, 0, 3, 0, 4, 0, 0, 0, 0, 0, 0, 0);
        Check.numbersAre(x, 0, 1, 8, 8, 0);
        Check.due("answer(0, 1) again", x.answer(0, 1), 0);
        x.notice(2);
        Check.due("answer(0, 1) from day 2 on", x.answer(0, 1), 2);
        Check.numbersAre(x, 0, 0, 0, 3, 4, 0);
        x.notice(9);
        Check.due("answer(0, 1) never", x.answer(0, 1), 2);
        Check.numbersAre(x, 0, 0, 0, 0, 0, 0);
        x.notice(1);
        x.judge(12, 12);
        // On day 1: 6 for all is 40, 3 for two of three 70 and -20 for the third by the JUDGE: alike, so the least.
        Check.due("answer(0, 1) ahead of a dear JUDGE", x.answer(0, 1), 2);
        Check.numbersAre(x, 0, 0, 3, 6, 0, 0);
        x.way(2, 3);
        Check.finding(x, "answer to a VOTE", 0, x.answer(0, 2), 3);
    }

    private static void reply() {
        Check.promise("28 reply");
        StrikeDays x = RunsTest.small();
        Check.numbers(x, 1, 2, 5, 5);
        Check.due("reply(1, 0)", x.reply(1, 0), 20);
        for (int sort = 0; sort < 2; sort++) {
            Check.numbersAre(x, 1, sort, 13, 13, 7, 13, 13, 13, 13, 13, 13, 13);
        }
        Check.numbersAre(x, 1, 2, 5, 5, 0);
        Check.due("reply(1, 0) again", x.reply(1, 0), 0);
        x.notice(4);
        Check.due("reply(1, 0) never", x.reply(1, 0), 2);
        Check.numbersAre(x, 1, 0, 13, 13, 13);
        x.way(2, 3);
        Check.finding(x, "reply of a VOTE", 0, x.reply(2, 0), 3);
        replyToSets();
        replyToEachSet();
    }

    private static void replyToSets() {
        StrikeDays x = pooled();
        Check.due("reply(1, 0) to alike offers", x.reply(1, 0), 9);
        // 0 on day 2 is no worse than 0 behind it.
        Check.numbersAre(x, 1, 0, 13, 0, 13);
        x.set(0, 1, 1, 2);
        Check.due("reply(1, 0) to unlike offers", x.reply(1, 0), 1);
        Check.numbersAre(x, 1, 0, 2, 0, 13);
        x.notice(2);
        x.set(0, 1, 2, 9);
        Check.due("reply(1, 0) from NOTICE on", x.reply(1, 0), 2);
        Check.numbersAre(x, 1, 0, 13, 9, 13);
    }

    /** Offers alike on day 2 are of two sets, if those of day 1 were not alike: each has its own mean to go on to. */
    private static void replyToEachSet() {
        StrikeDays x = Check.quarrelOf("m1,0 o1,0 o1,0 o1,0 v10 h10 l3 w0");
        x.way(0, 1);
        Check.numbers(x, 0, 0, 1, 4, 9);
        Check.numbers(x, 0, 1, 1, 4, 0);
        Check.numbers(x, 0, 2, 2, 5, 9);
        x.way(1, 2);
        x.reply(1, 0);
        // Set 0, 1: 36 on day 2, no worse than the mean of 72 and 0. Set 2: 45 is worse than 72.
        Check.numbersAre(x, 1, 0, 13, 4, 0, 13);
        x.set(0, 1, 3, 1);
        x.reply(1, 0);
        Check.numbersAre(x, 1, 0, 13, 13, 1, 13);
        x.set(0, 1, 1, 3);
        x.reply(1, 0);
        // Apart from day 1 on: SORT 1 takes 3 at once, and 4 on day 2; SORT 0 with 4 on day 2 is refused.
        Check.numbersAre(x, 1, 0, 13, 4, 1, 13);
    }
}
