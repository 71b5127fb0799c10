/** Promises 21 to 24: what becomes of an OFFER and a TAKE. */
public final class RunsTest {
    public static void main(String[] args) {
        run();
        vote();
        worth();
        think();
        end();
        refusals();
        Check.close();
    }

    /** One SORT of OWNERS (2, 5, 7), two of MEN (6, 6, 4 and 3, 3, 8): SETTLED on day 3 at 7, on day 2 at 5. */
    static StrikeDays small() {
        StrikeDays x = Check.quarrelOf("m1,1 m2,3 o3,2 v10 h10 l3 w4");
        x.way(0, 1);
        Check.numbers(x, 0, 0, 2, 5, 7);
        x.way(1, 2);
        Check.numbers(x, 1, 0, 6, 6, 4);
        Check.numbers(x, 1, 1, 3, 3, 8);
        return x;
    }

    /** Three of five OWNERS offer 5 each day, two nothing; half of the MEN take 5 from day 1 on, half from day 2 on. */
    static StrikeDays unevenChances() {
        StrikeDays x = Check.quarrelOf("m2,4 m2,6 o1,1 o2,2 o2,3 v7 h9 l3 w1");
        x.way(0, 1);
        Check.numbers(x, 0, 0, 5, 5, 5);
        Check.numbers(x, 0, 1, 5, 5, 5);
        Check.numbers(x, 0, 2, 0, 0, 0);
        x.way(1, 2);
        Check.numbers(x, 1, 0, 5, 5, 5);
        Check.numbers(x, 1, 1, 13, 5, 5);
        return x;
    }

    private static void runIs(StrikeDays x, int take, int owners, int men, int day, int wage) {
        Check.due("run(0, " + take + ", " + owners + ", " + men + ")", x.run(0, take, owners, men), day);
        Check.due("its WAGE", x.asked(), wage);
    }

    private static void run() {
        Check.promise("21 run");
        StrikeDays x = small();
        runIs(x, 1, 0, 0, 3, 7);
        runIs(x, 1, 0, 1, 2, 5);
        x.set(1, 0, 2, 5);
        runIs(x, 1, 0, 0, 2, 5);
        x.notice(3);
        runIs(x, 1, 0, 0, 3, 7);
        runIs(x, 1, 0, 1, 4, 4);
        x.notice(4);
        runIs(x, 1, 0, 0, 4, 4);
        x.notice(10);
        runIs(x, 1, 0, 0, 4, 4);
        x.judge(12, 9);
        x.notice(1);
        runIs(x, 1, 0, 0, 2, 5);
        // Day 4 is behind the LAST day, whatever is offered on it.
        Check.numbers(x, 1, 0, 13, 13, 13, 0);
        runIs(x, 1, 0, 0, 4, 4);
        Check.due("run by OWNERS that are not", x.run(0, 1, 1, 0), StrikeDays.BAD);
        Check.due("run by OWNERS -1", x.run(0, 1, -1, 0), StrikeDays.BAD);
        Check.due("run by MEN that are not", x.run(0, 1, 0, 2), StrikeDays.BAD);
        Check.due("run by MEN -1", x.run(0, 1, 0, -1), StrikeDays.BAD);
        Check.due("asked() as before", x.asked(), 4);
    }

    private static void vote() {
        Check.promise("21 run of a VOTE");
        StrikeDays x = Check.quarrelOf("m2,1 m1,1 m1,1 o1,1 o1,1 l4 w9");
        x.way(0, 1);
        Check.numbers(x, 0, 0, 5, 5, 5, 5);
        Check.numbers(x, 0, 1, 4, 4, 4, 4);
        x.way(1, 3);
        Check.numbers(x, 1, 0, 5, 13, 5, 0);
        Check.numbers(x, 1, 1, 6, 0, 5, 0);
        Check.numbers(x, 1, 2, 6, 0, 6, 0);
        for (int men = 0; men < 3; men++) {
            runIs(x, 1, 0, men, 3, 5);
            runIs(x, 1, 1, men, 4, 4);
        }
        x.set(1, 1, 1, 5);
        runIs(x, 1, 0, 2, 1, 5);
    }

    private static void worth() {
        Check.promise("22 worth");
        StrikeDays x = small();
        Check.fraction(x, "worth of MEN 0", x.worth(0, 1, 0, 0), 54, 1);
        Check.fraction(x, "worth of MEN 1", x.worth(0, 1, 0, 1), 42, 1);
        Check.fraction(x, "worth of OWNERS 0", x.worth(0, 1, 1, 0), 106, 3);
        x.judge(6, 6);
        // Half 60, a quarter 51, a quarter 42.
        Check.fraction(x, "worth of MEN 1 with a JUDGE", x.worth(0, 1, 0, 1), 213, 4);
        x.judge(12, 6);
        Check.fraction(x, "worth of MEN 1 with a sure JUDGE", x.worth(0, 1, 0, 1), 60, 1);
        x.judge(6, 6);
        x.notice(4);
        // 60, 51, 42 on the days, then 4 times 7 less 9: 30 + 12.75 + 5.25 + 2.375.
        Check.fraction(x, "worth of MEN 1 behind NOTICE", x.worth(0, 1, 0, 1), 403, 8);
        below();
        Check.due("worth of a third SORT", x.worth(0, 1, 0, 2), StrikeDays.BAD);
        Check.due("worth of OWNERS 1", x.worth(0, 1, 1, 1), StrikeDays.BAD);
        Check.due("worth of side 2", x.worth(0, 1, 2, 0), StrikeDays.BAD);
        Check.due("worth of side -1", x.worth(0, 1, -1, 0), StrikeDays.BAD);
        Check.due("worth of SORT -1", x.worth(0, 1, 0, -1), StrikeDays.BAD);
        Check.due("upper() as before", x.upper(), 403);
    }

    private static void below() {
        StrikeDays x = Check.quarrelOf("m1,99o1,99v0h10l10w12");
        x.way(0, 1);
        x.way(1, 2);
        Check.numbers(x, 1, 0, 13, 13, 13, 13, 13, 13, 13, 13, 13, 13);
        Check.fraction(x, "worth far below 0", x.worth(0, 1, 1, 0), -990, 1);
        x.judge(1, 12);
        x.worth(0, 1, 1, 0);
        // 12 to the tenth parts, whose upper number has no 2 and no 3 to cut but those of all terms.
        Check.due("a long lower number divides 12 to the tenth", 61917364224L % x.lower(), 0);
        Check.due("upper() below 0", x.upper() < 0 ? 1 : 0, 1);
        x.set(1, 0, 1, 0);
        x.judge(0, 0);
        Check.fraction(x, "worth of nothing", x.worth(0, 1, 0, 0), 0, 1);
    }

    private static void think() {
        Check.promise("23 think");
        StrikeDays x = small();
        Check.fraction(x, "MEN of OWNERS", x.think(0, 1, 0, 2, 0, 0), 1, 1);
        Check.fraction(x, "OWNERS behind 0 days", x.think(0, 1, 0, 0, 1, 0), 1, 3);
        Check.fraction(x, "OWNERS behind 1 day", x.think(0, 1, 0, 1, 1, 1), 2, 3);
        Check.fraction(x, "OWNERS behind 2 days", x.think(0, 1, 0, 2, 1, 0), 1, 1);
        Check.fraction(x, "OWNERS of those who took", x.think(0, 1, 0, 2, 1, 1), 0, 1);
        Check.finding(x, "OWNERS behind 3 days", 0, x.think(0, 1, 0, 3, 1, 0), 4);
        Check.finding(x, "MEN behind 3 days", 1, x.think(0, 1, 0, 3, 0, 0), 4);
        Check.due("upper() as before", x.upper(), 0);
        x.notice(3);
        Check.fraction(x, "OWNERS behind 2 days ahead of NOTICE", x.think(0, 1, 0, 2, 1, 1), 2, 3);
        Check.due("think behind 4 days", x.think(0, 1, 0, 4, 1, 0), StrikeDays.BAD);
        Check.due("think behind -1 days", x.think(0, 1, 0, -1, 1, 0), StrikeDays.BAD);
        Check.due("think of MEN 2", x.think(0, 1, 0, 1, 1, 2), StrikeDays.BAD);
        Check.due("think of OWNERS 1", x.think(0, 1, 0, 1, 0, 1), StrikeDays.BAD);
        Check.due("think by offers of OWNERS 1", x.think(0, 1, 1, 1, 1, 1), StrikeDays.BAD);
        Check.due("think by offers of OWNERS -1", x.think(0, 1, -1, 1, 1, 1), StrikeDays.BAD);
        Check.due("think of SORT -1", x.think(0, 1, 0, 1, 1, -1), StrikeDays.BAD);
        Check.due("think of side 2", x.think(0, 1, 0, 1, 2, 0), StrikeDays.BAD);
        Check.due("think of side -1", x.think(0, 1, 0, 1, -1, 0), StrikeDays.BAD);
        thinkOfOffers();
        thinkOfVotes();
    }

    private static void thinkOfOffers() {
        StrikeDays x = Check.quarrelOf("m1,1 o1,1 o2,1 o4,1 l3");
        x.way(0, 1);
        Check.numbers(x, 0, 0, 1, 2, 3);
        Check.numbers(x, 0, 1, 1, 2, 4);
        Check.numbers(x, 0, 2, 0, 2, 3);
        x.way(1, 2);
        Check.numbers(x, 1, 0, 13, 13, 13);
        Check.fraction(x, "behind 0 days", x.think(0, 1, 0, 0, 0, 2), 4, 7);
        Check.fraction(x, "behind 1 day", x.think(0, 1, 0, 1, 0, 1), 2, 3);
        Check.fraction(x, "behind 1 day of another", x.think(0, 1, 0, 1, 0, 2), 0, 1);
        Check.fraction(x, "behind 1 day of the other's offers", x.think(0, 1, 2, 1, 0, 2), 1, 1);
        Check.fraction(x, "behind 3 days", x.think(0, 1, 1, 3, 0, 1), 1, 1);
        Check.fraction(x, "behind 3 days of another", x.think(0, 1, 1, 3, 0, 0), 0, 1);
        x.notice(2);
        Check.fraction(x, "what was offered ahead of NOTICE is not seen", x.think(0, 1, 0, 3, 0, 2), 4, 5);
        Check.fraction(x, "not even on that day", x.think(0, 1, 0, 1, 0, 2), 4, 7);
    }

    private static void thinkOfVotes() {
        StrikeDays x = Check.quarrelOf("m1,1 m1,1 m1,1 o1,1 l3");
        x.way(0, 1);
        Check.numbers(x, 0, 0, 5, 6, 7);
        x.way(1, 3);
        Check.numbers(x, 1, 0, 5, 5, 5);
        Check.numbers(x, 1, 1, 13, 6, 13);
        Check.numbers(x, 1, 2, 13, 13, 13);
        Check.fraction(x, "a VOTE not carried leaves all", x.think(0, 1, 0, 1, 1, 0), 1, 3);
        Check.finding(x, "a VOTE carried leaves none", 0, x.think(0, 1, 0, 2, 1, 2), 4);
    }

    private static void end() {
        Check.promise("24 end");
        StrikeDays x = small();
        Check.fraction(x, "end on day 1", x.end(0, 1, 1), 0, 1);
        Check.fraction(x, "end on day 2", x.end(0, 1, 2), 2, 3);
        Check.fraction(x, "end on day 3", x.end(0, 1, 3), 1, 3);
        Check.fraction(x, "end on day 4", x.end(0, 1, 4), 0, 1);
        x.set(1, 0, 3, 13);
        x.judge(12, 1);
        Check.fraction(x, "never, without the JUDGE", x.end(0, 1, 4), 1, 3);
        x = unevenChances();
        Check.fraction(x, "end on day 1 of uneven CHANCES", x.end(0, 1, 1), 3, 10);
        Check.fraction(x, "end on day 2 of uneven CHANCES", x.end(0, 1, 2), 3, 10);
        Check.fraction(x, "end never of uneven CHANCES", x.end(0, 1, 4), 2, 5);
        Check.due("end on day 0", x.end(0, 1, 0), StrikeDays.BAD);
        Check.due("end on day 5", x.end(0, 1, 5), StrikeDays.BAD);
    }

    /** All calls of an OFFER and a TAKE are refused alike. */
    private static void refusals() {
        Check.promise("21 to 24 refused");
        StrikeDays x = small();
        x.way(2, 3);
        x.way(3, 0);
        x.way(4, 4);
        int[][] unlike = {{1, 0}, {0, 0}, {1, 1}, {2, 1}, {3, 1}, {4, 1}, {0, 3}, {0, 4}};
        int[][] bad = {{8, 1}, {-1, 1}, {0, 8}, {0, -1}};
        int[][] nothing = {{7, 1}, {0, 7}, {7, 7}, {1, 7}};
        int done = 0;
        for (int[] pair : unlike) {
            done = eachRefused(x, pair, StrikeDays.FINDING, 3, done);
        }
        done = 0;
        for (int[] pair : nothing) {
            done = eachRefused(x, pair, StrikeDays.FINDING, 1, done);
        }
        for (int[] pair : bad) {
            eachRefused(x, pair, StrikeDays.BAD, 1, done);
        }
        Check.fraction(x, "a VOTE is a TAKE", x.end(0, 2, 1), 1, 1);
    }

    private static int eachRefused(StrikeDays x, int[] pair, int due, int f, int before) {
        int[] got = {
            x.run(pair[0], pair[1], 0, 0), x.worth(pair[0], pair[1], 0, 0), x.think(pair[0], pair[1], 0, 0, 0, 0),
            x.end(pair[0], pair[1], 1), x.rest(pair[0], pair[1]), x.answer(pair[0], pair[1]),
            x.reply(pair[1], pair[0]), x.longer(pair[0], pair[1]), x.lost(pair[0], pair[1]),
            x.morning(pair[0], pair[1], 0, 0), x.law(pair[0], pair[1])
        };
        for (int i = 0; i < got.length; i++) {
            Check.due("call " + i + " of " + pair[0] + ", " + pair[1], got[i], due);
        }
        int after = before + (due == StrikeDays.FINDING ? got.length : 0);
        Check.due("findings(" + f + ")", x.findings(f), after);
        return after;
    }
}
