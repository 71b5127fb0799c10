import java.math.BigInteger;

/** Sentences about RUNS, the JUDGE, what is thought and what is lost that name an edge, each with its own test. */
public final class RunEdgesTest {
    private interface Call {
        int on(StrikeDays x);
    }

    private static final Call[] CALLS = {
        x -> x.run(0, 1, 0, 0), x -> x.worth(0, 1, 0, 0), x -> x.worth(0, 1, 1, 0), x -> x.think(0, 1, 0, 1, 0, 0),
        x -> x.think(0, 1, 0, 1, 1, 0), x -> x.end(0, 1, 2), x -> x.best(0, 0, 0), x -> x.best(1, 1, 0),
        x -> x.rest(0, 1), x -> x.longer(0, 1), x -> x.lost(0, 1), x -> x.morning(0, 1, 0, 0), x -> x.law(0, 1),
        x -> x.answer(0, 1), x -> x.reply(1, 0), x -> x.worth(0, 1, 0, 0), x -> x.worth(0, 1, 1, 0)
    };

    public static void main(String[] args) {
        noLessThanWhatIsTaken();
        theFirstDay();
        fromNoticeOn();
        moreThanHalf();
        aVoteCarriedIsTakenByAll();
        whatSortsHave();
        notSettled();
        chancesAreShares();
        lowestTerms();
        twelfths();
        judgeAheadOfTheOffer();
        judgeOnEachDayTillLast();
        judgeWhateverNoticeIs();
        judgeForTenDays();
        withoutTheJudge();
        thinkBehindDays();
        thinkFromNoticeOn();
        thinkWhenNoneIsLeft();
        sortsThatThereAreNot();
        thinkByVotes();
        oddsOfEachDay();
        daysLost();
        whatNobodyHas();
        morningBits();
        morningNoLessAndOneMore();
        theLaw();
        Check.close();
    }

    private static void runIs(StrikeDays x, int owners, int men, int day, int wage) {
        Check.due("run(0, 1, " + owners + ", " + men + ")", x.run(0, 1, owners, men), day);
        Check.due("its WAGE", x.asked(), wage);
    }

    private static void noLessThanWhatIsTaken() {
        Check.promise("SETTLED on the first day on which what is offered is no less than what is taken");
        for (int offered = 0; offered <= 12; offered++) {
            for (int taken = 0; taken <= 13; taken++) {
                StrikeDays x = Check.level("m1,1o1,1l1w3", offered, taken);
                runIs(x, 0, 0, offered >= taken ? 1 : 2, offered >= taken ? offered : 3);
            }
        }
    }

    private static void theFirstDay() {
        Check.promise("The day of SETTLING in a RUN by SORTS (LAST and 1: none)");
        for (int last = 1; last <= 10; last++) {
            for (int day = 1; day <= 10; day++) {
                StrikeDays x = Check.level("m1,1o1,1w7l" + last, 4, 5);
                // What comes behind the first such day counts as little as what comes behind the LAST one.
                for (int later = day + 1; later <= 10; later++) {
                    x.set(0, 0, later, 12);
                }
                x.set(0, 0, day, 5);
                runIs(x, 0, 0, day <= last ? day : last + 1, day <= last ? 5 : 7);
            }
        }
    }

    private static void fromNoticeOn() {
        Check.promise("from NOTICE on, which is 1 at first (NOTICE behind the LAST day: never.)");
        for (int last = 1; last <= 10; last++) {
            StrikeDays x = Check.level("m1,1o1,1w7l" + last, 4, 4);
            runIs(x, 0, 0, 1, 4);
            for (int notice = 1; notice <= 10; notice++) {
                x.notice(notice);
                boolean settled = notice <= last;
                runIs(x, 0, 0, settled ? notice : last + 1, settled ? 4 : 7);
            }
        }
    }

    private static void moreThanHalf() {
        Check.promise("VOTE: it is taken, if SORTS of MEN that take it have more than half of all CHANCES together");
        int[][] chances = {{1, 1, 2}, {1, 2, 4}, {3, 3, 3}, {9, 9, 9}, {2, 3, 5}, {9, 1, 8}, {9, 4, 4}, {1, 1, 1}};
        for (int[] c : chances) {
            for (int takers = 0; takers < 8; takers++) {
                StrikeDays x = Check.level("m" + c[0] + ",1m" + c[1] + ",1m" + c[2] + ",1o1,1l1w9", 6, 0);
                x.way(1, 3);
                int have = 0;
                for (int s = 0; s < 3; s++) {
                    boolean takes = (takers >> s & 1) == 1;
                    x.set(1, s, 1, takes ? 6 : 7);
                    have += takes ? c[s] : 0;
                }
                boolean carried = 2 * have > c[0] + c[1] + c[2];
                for (int s = 0; s < 3; s++) {
                    runIs(x, 0, s, carried ? 1 : 2, carried ? 6 : 9);
                }
            }
        }
        StrikeDays x = Check.level("m1,1m1,1o1,1l1w9", 6, 6);
        x.way(1, 3);
        x.set(1, 1, 1, 7);
        runIs(x, 0, 0, 2, 9);
        x.set(1, 1, 1, 6);
        runIs(x, 0, 0, 1, 6);
        // SORT 2 is not there: what it would take counts for nothing.
        x.set(1, 2, 1, 13);
        runIs(x, 0, 1, 1, 6);
    }

    private static void aVoteCarriedIsTakenByAll() {
        Check.promise("(then all take it)");
        StrikeDays x = Check.level("m2,3m1,5o1,2v10h10l2w0", 6, 13);
        x.way(1, 3);
        x.set(1, 0, 1, 13);
        x.set(1, 1, 1, 13);
        x.set(1, 0, 2, 6);
        x.set(1, 1, 2, 13);
        runIs(x, 0, 0, 2, 6);
        runIs(x, 0, 1, 2, 6);
        Check.fraction(x, "worth of those who would not", x.worth(0, 1, 0, 1), 6 * 9 - 5, 1);
        Check.fraction(x, "worth of OWNERS", x.worth(0, 1, 1, 0), 4 * 9 - 2, 1);
        Check.fraction(x, "end on day 2", x.end(0, 1, 2), 1, 1);
        Check.fraction(x, "longer", x.longer(0, 1), 1, 1);
        Check.fraction(x, "lost", x.lost(0, 1), 47, 3);
        // 49 for MEN 1 and 34 for OWNERS: 5 and 6 are no less.
        Check.due("morning", x.morning(0, 1, 0, 1), 96);
        lawIs(x, 13, 3, 4);
    }

    private static void whatSortsHave() {
        Check.promise("MEN of a SORT have x times (HORIZON less d and 1) less cost times (d less 1)");
        for (int horizon = 10; horizon <= 40; horizon += 30) {
            for (int day = 1; day <= 10; day++) {
                StrikeDays x = Check.level("m1,99o1,98v7l10h" + horizon, 0, 13);
                x.set(0, 0, day, 12);
                x.set(1, 0, day, 12);
                Check.fraction(x, "MEN", x.worth(0, 1, 0, 0), 12L * (horizon - day + 1) - 99L * (day - 1), 1);
                Check.fraction(x, "OWNERS", x.worth(0, 1, 1, 0), -5L * (horizon - day + 1) - 98L * (day - 1), 1);
            }
        }
    }

    private static void notSettled() {
        Check.promise("Not SETTLED till the LAST day: as if SETTLED on the day behind that at w.");
        for (int last = 1; last <= 10; last++) {
            StrikeDays x = Check.level("m1,2o1,3v9w12h10l" + last, 12, 13);
            runIs(x, 0, 0, last + 1, 12);
            Check.fraction(x, "MEN", x.worth(0, 1, 0, 0), 12L * (10 - last) - 2L * last, 1);
            Check.fraction(x, "OWNERS", x.worth(0, 1, 1, 0), -3L * (10 - last) - 3L * last, 1);
        }
        StrikeDays x = Check.level("m1,0o1,0v9w12h1l1", 12, 13);
        Check.fraction(x, "no day is left", x.worth(0, 1, 0, 0), 0, 1);
    }

    private static void chancesAreShares() {
        Check.promise("CHANCES are shares of their side's sum.");
        StrikeDays x = Check.level("m1,0m9,0o2,0o3,0o4,0v0h1l1w0", 0, 13);
        Check.fraction(x, "a SORT of MEN", x.think(0, 1, 0, 0, 1, 0), 1, 10);
        Check.fraction(x, "the other one", x.think(0, 1, 0, 0, 1, 1), 9, 10);
        Check.fraction(x, "a SORT of OWNERS", x.think(0, 1, 0, 0, 0, 0), 2, 9);
        Check.fraction(x, "a third of OWNERS", x.think(0, 1, 0, 0, 0, 1), 1, 3);
        Check.fraction(x, "the last of OWNERS", x.think(0, 1, 0, 0, 0, 2), 4, 9);
        x.set(0, 1, 1, 12);
        x.set(1, 1, 1, 12);
        Check.fraction(x, "a pair of them", x.end(0, 1, 1), 3, 10);
    }

    /** MEN have 3 by the first SORT of OWNERS, 2 less than nothing by the second. */
    private static StrikeDays mixed(int first, int second) {
        StrikeDays x = Check.level("m1,1o" + first + ",0o" + second + ",0v0h3l2w0", 0, 13);
        x.set(0, 0, 1, 1);
        x.set(1, 0, 1, 1);
        return x;
    }

    private static void lowestTerms() {
        Check.promise("upper() (may be below 0) and lower(), in lowest terms, the lower number above 0 (0 by 1)");
        StrikeDays x = mixed(1, 2);
        Check.fraction(x, "below 0", x.worth(0, 1, 0, 0), -1, 3);
        x = mixed(2, 4);
        Check.fraction(x, "below 0, to be cut", x.worth(0, 1, 0, 0), -1, 3);
        x = mixed(2, 3);
        Check.fraction(x, "0 by 1", x.worth(0, 1, 0, 0), 0, 1);
        x = mixed(3, 2);
        Check.fraction(x, "a whole number", x.worth(0, 1, 0, 0), 1, 1);
        x = mixed(1, 9);
        Check.fraction(x, "a whole and a half below 0", x.worth(0, 1, 0, 0), -3, 2);
        x = mixed(9, 3);
        Check.fraction(x, "to be cut by 3", x.worth(0, 1, 0, 0), 7, 4);
        x = mixed(9, 9);
        x.judge(1, 0);
        x.worth(0, 1, 0, 0);
        Check.due("the lower number is above 0", x.lower() > 0 ? 1 : 0, 1);
        Check.due("nothing to cut", BigInteger.valueOf(x.upper()).gcd(BigInteger.valueOf(x.lower())).longValue(), 1);
    }

    private static void twelfths() {
        Check.promise("A JUDGE: by a chance of a twelfths (0 .. 12), his WAGE (0 .. 12)");
        for (int a = 0; a <= 12; a++) {
            for (int wage = 0; wage <= 12; wage++) {
                StrikeDays x = Check.level("m1,0o1,0v20h12l1w0", 5, 5);
                Check.fraction(x, "at first there is none", x.worth(0, 1, 0, 0), 60, 1);
                Check.due("judge(" + a + ", " + wage + ")", x.judge(a, wage), 1);
                Check.fraction(x, "MEN", x.worth(0, 1, 0, 0), a * wage + (12 - a) * 5, 1);
                Check.fraction(x, "OWNERS", x.worth(0, 1, 1, 0), a * (20 - wage) + (12 - a) * 15, 1);
                Check.fraction(x, "BEST of MEN", x.best(0, 0, 0), a * wage + (12 - a) * 5, 1);
                // By 12 behind the LAST day OWNERS would rather have 5 taken.
                x = Check.level("m1,0o1,0v20h12l1w12", 5, 5);
                x.judge(a, wage);
                Check.fraction(x, "BEST of OWNERS", x.best(1, 1, 0), a * (20 - wage) + (12 - a) * 15, 1);
            }
        }
    }

    private static void judgeAheadOfTheOffer() {
        Check.promise("ahead of the offer, all is SETTLED by a WAGE");
        StrikeDays x = Check.level("m1,0o1,0v20h12l2w0", 12, 12);
        x.judge(12, 3);
        Check.fraction(x, "a sure JUDGE on day 1", x.worth(0, 1, 0, 0), 36, 1);
        Check.fraction(x, "a sure JUDGE on day 1, OWNERS", x.worth(0, 1, 1, 0), 17 * 12, 1);
        x.judge(6, 12);
        x.set(0, 0, 1, 0);
        x.set(0, 0, 2, 10);
        x.set(1, 0, 2, 10);
        // A half on day 1 (144), a quarter on day 2 (132), a quarter the offer on day 2 (110).
        Check.fraction(x, "SETTLED on day 2", x.worth(0, 1, 0, 0), 265, 2);
    }

    private static void judgeOnEachDayTillLast() {
        Check.promise("on each day 1 .. LAST");
        StrikeDays x = Check.level("m1,0o1,0v20h12l2w0", 12, 13);
        x.judge(6, 12);
        Check.fraction(x, "two days, not the third", x.worth(0, 1, 0, 0), 105, 1);
        x = Check.level("m1,0o1,0v20h12l1w0", 12, 13);
        x.judge(6, 12);
        Check.fraction(x, "one day, not the second", x.worth(0, 1, 0, 0), 72, 1);
    }

    private static void judgeWhateverNoticeIs() {
        Check.promise("(whatever NOTICE is)");
        for (int notice = 2; notice <= 10; notice++) {
            StrikeDays x = Check.level("m1,0o1,0v20h12l1w1", 12, 0);
            x.notice(notice);
            x.judge(3, 12);
            // A quarter of 144, three quarters of 11.
            Check.fraction(x, "NOTICE behind the LAST day", x.worth(0, 1, 0, 0), 177, 4);
            Check.fraction(x, "BEST likewise", x.best(0, 0, 0), 177, 4);
            // A quarter of 96, three quarters of 209.
            Check.fraction(x, "BEST of OWNERS likewise", x.best(1, 1, 0), 723, 4);
        }
    }

    private static void judgeForTenDays() {
        Check.promise("each day 1 .. 10");
        StrikeDays x = Check.level("m1,0o1,0v0h10l10w0", 12, 13);
        x.judge(1, 12);
        BigInteger up = BigInteger.ZERO;
        BigInteger low = BigInteger.valueOf(12).pow(9);
        for (int k = 0; k < 10; k++) {
            BigInteger part = BigInteger.valueOf(11).pow(k).multiply(BigInteger.valueOf(12).pow(9 - k));
            up = up.add(part.multiply(BigInteger.valueOf(10 - k)));
        }
        BigInteger cut = up.gcd(low);
        long upper = up.divide(cut).longValueExact();
        long lower = low.divide(cut).longValueExact();
        Check.fraction(x, "MEN", x.worth(0, 1, 0, 0), upper, lower);
        Check.fraction(x, "OWNERS", x.worth(0, 1, 1, 0), -upper, lower);
        StrikeDays y = Check.level("m9,99m9,99m9,99o9,99o9,99o9,99v99h40l10w12", 12, 13);
        y.judge(11, 0);
        // 3960 less 198 for each day without him; behind the LAST day 360 less, by a chance of 1 in 12 to the tenth.
        upper = (3942 * 61917364224L - 342) / 18;
        Check.fraction(y, "the greatest numbers", y.worth(0, 1, 1, 0), upper, 61917364224L / 18);
        Check.fraction(y, "BEST of the greatest numbers", y.best(1, 1, 0), upper, 61917364224L / 18);
    }

    private static void withoutTheJudge() {
        Check.promise("(without the JUDGE)");
        StrikeDays x = Check.level("m1,0m1,0o1,0v10h10l3w0", 5, 13);
        x.set(1, 0, 2, 5);
        for (int a = 0; a <= 12; a += 12) {
            x.judge(a, 12);
            runIs(x, 0, 0, 2, 5);
            runIs(x, 0, 1, 4, 0);
            Check.fraction(x, "end on day 1", x.end(0, 1, 1), 0, 1);
            Check.fraction(x, "end on day 2", x.end(0, 1, 2), 1, 2);
            Check.fraction(x, "end on day 4", x.end(0, 1, 4), 1, 2);
            Check.fraction(x, "longer", x.longer(0, 1), 2, 1);
            Check.fraction(x, "lost", x.lost(0, 1), 20, 1);
            Check.due("morning", x.morning(0, 1, 0, 0), 1 << 5);
            Check.fraction(x, "think", x.think(0, 1, 0, 3, 1, 1), 1, 1);
        }
    }

    /** Three SORTS each: OWNERS 2 are told apart on day 2, OWNERS 1 on day 3; MEN 0 take on day 2, MEN 1 on day 3. */
    private static StrikeDays apart() {
        StrikeDays x = Check.level("m1,1m2,1m4,1o1,1o2,1o4,1l3", 0, 13);
        Check.numbers(x, 0, 0, 1, 2, 3);
        Check.numbers(x, 0, 1, 1, 2, 4);
        Check.numbers(x, 0, 2, 1, 5, 3);
        x.set(1, 0, 2, 2);
        x.set(1, 1, 3, 3);
        return x;
    }

    private static void thinkIs(StrikeDays x, int d, int side, long... shares) {
        for (int s = 0; s < 3; s++) {
            Check.fraction(x, "think behind " + d + " of " + s, x.think(0, 1, 0, d, side, s),
                shares[2 * s], shares[2 * s + 1]);
        }
    }

    private static void thinkBehindDays() {
        Check.promise("MEN's share of each SORT of OWNERS whose offers are as these on all days to d");
        StrikeDays x = apart();
        thinkIs(x, 0, 0, 1, 7, 2, 7, 4, 7);
        thinkIs(x, 1, 0, 1, 7, 2, 7, 4, 7);
        thinkIs(x, 2, 0, 1, 3, 2, 3, 0, 1);
        thinkIs(x, 3, 0, 1, 1, 0, 1, 0, 1);
        Check.promise("OWNERS' share of each SORT of MEN that has not taken by then (by CHANCES)");
        thinkIs(x, 0, 1, 1, 7, 2, 7, 4, 7);
        thinkIs(x, 1, 1, 1, 7, 2, 7, 4, 7);
        thinkIs(x, 2, 1, 0, 1, 1, 3, 2, 3);
        thinkIs(x, 3, 1, 0, 1, 0, 1, 1, 1);
    }

    private static void thinkFromNoticeOn() {
        Check.promise("on all days from NOTICE to d");
        StrikeDays x = apart();
        x.notice(3);
        thinkIs(x, 2, 0, 1, 7, 2, 7, 4, 7);
        thinkIs(x, 2, 1, 1, 7, 2, 7, 4, 7);
        thinkIs(x, 3, 0, 1, 5, 0, 1, 4, 5);
        thinkIs(x, 3, 1, 1, 5, 0, 1, 4, 5);
        x.notice(4);
        thinkIs(x, 3, 0, 1, 7, 2, 7, 4, 7);
        thinkIs(x, 3, 1, 1, 7, 2, 7, 4, 7);
    }

    private static void thinkWhenNoneIsLeft() {
        Check.promise("NOUGHT (of both sides): no SORT of MEN is left that did not take by then.");
        StrikeDays x = apart();
        Check.fraction(x, "one is left", x.think(0, 1, 0, 3, 1, 2), 1, 1);
        x.set(1, 2, 3, 3);
        Check.fraction(x, "two are left behind day 2", x.think(0, 1, 0, 2, 1, 2), 2, 3);
        for (int s = 0; s < 3; s++) {
            Check.finding(x, "MEN", 2 * s, x.think(0, 1, 0, 3, 0, s), 4);
            Check.finding(x, "OWNERS", 2 * s + 1, x.think(0, 1, 0, 3, 1, s), 4);
        }
        Check.due("upper() stays", x.upper(), 2);
        Check.due("lower() stays", x.lower(), 3);
        // By the offers of another SORT one is left: MEN 0 take 4 on no day but the second.
        x.set(0, 1, 2, 1);
        Check.fraction(x, "by OWNERS 1", x.think(0, 1, 1, 3, 1, 0), 1, 1);
    }

    /** Numbers of SORTS that the QUARREL has not change no answer of a RUN, whatever they are. */
    private static void sortsThatThereAreNot() {
        Check.promise("one that there is not");
        for (int kind = 2; kind <= 3; kind++) {
            for (int men = 1; men <= 3; men++) {
                for (int owners = 1; owners <= 3; owners++) {
                    long[] due = answersOfARun(kind, men, owners, 0, 0);
                    Check.same("12 and 13 of other SORTS", answersOfARun(kind, men, owners, 12, 13), due);
                    Check.same("12 and 0 of other SORTS", answersOfARun(kind, men, owners, 12, 0), due);
                    Check.same("0 and 13 of other SORTS", answersOfARun(kind, men, owners, 0, 13), due);
                }
            }
        }
    }

    private static long[] answersOfARun(int kind, int men, int owners, int offered, int taken) {
        StrikeDays x = Check.level("m1,1".repeat(men) + "o1,2".repeat(owners) + "h9l2w3", offered, taken);
        if (kind == 3) {
            x.way(1, 3);
        }
        for (int s = 0; s < 3; s++) {
            for (int day = 1; day <= 10; day++) {
                x.set(0, s, day, s < owners ? Math.min(4 + day, 12) : offered);
                x.set(1, s, day, s < men ? 6 : taken);
            }
        }
        // On day 2 all take 6: none is left.
        int none = x.think(0, 1, 0, 2, 0, 0);
        Check.due("NOUGHT", none == StrikeDays.FINDING ? x.finding() : none, 4);
        long[] answers = new long[3 * CALLS.length];
        for (int i = 0; i < CALLS.length; i++) {
            answers[3 * i] = CALLS[i].on(x);
            answers[3 * i + 1] = x.upper();
            answers[3 * i + 2] = x.lower();
        }
        return answers;
    }

    private static void thinkByVotes() {
        Check.promise("(by CHANCES; VOTE: all or none)");
        StrikeDays x = apart();
        x.way(1, 3);
        Check.numbers(x, 1, 0, 13, 13, 13);
        Check.numbers(x, 1, 1, 0, 0, 3);
        Check.numbers(x, 1, 2, 13, 13, 3);
        thinkIs(x, 2, 1, 1, 7, 2, 7, 4, 7);
        thinkIs(x, 2, 0, 1, 3, 2, 3, 0, 1);
        Check.finding(x, "carried on day 3", 0, x.think(0, 1, 0, 3, 1, 0), 4);
        Check.finding(x, "of both sides", 1, x.think(0, 1, 0, 3, 0, 0), 4);
    }

    private static void oddsOfEachDay() {
        Check.promise("The odds that a RUN is SETTLED on a day (1 .. LAST and 1)");
        StrikeDays x = Check.level("m1,1m2,1o1,1o3,1l10w0", 6, 13);
        x.set(1, 0, 10, 6);
        x.set(1, 1, 1, 6);
        x.set(0, 0, 1, 5);
        // MEN 1 by OWNERS 1 on day 1 (6 of 12), MEN 0 on day 10 (4 of 12), MEN 1 by OWNERS 0 never (2 of 12).
        Check.fraction(x, "day 1", x.end(0, 1, 1), 1, 2);
        for (int day = 2; day <= 9; day++) {
            Check.fraction(x, "day " + day, x.end(0, 1, day), 0, 1);
        }
        Check.fraction(x, "day 10", x.end(0, 1, 10), 1, 3);
        Check.fraction(x, "day 11", x.end(0, 1, 11), 1, 6);
        Check.due("day 12", x.end(0, 1, 12), StrikeDays.BAD);
        x = Check.level("m1,1o1,1o1,1o1,1l1w0", 6, 13);
        Check.fraction(x, "more SORTS of OWNERS", x.end(0, 1, 2), 1, 1);
        x = Check.level("m1,1m1,1m1,1o1,1l1w0", 6, 13);
        Check.fraction(x, "more SORTS of MEN", x.end(0, 1, 2), 1, 1);
    }

    private static void daysLost() {
        Check.promise("Days lost in the mean (day of SETTLING less 1)");
        for (int last = 1; last <= 10; last++) {
            StrikeDays x = Check.level("m1,1o1,1l" + last, 6, 6);
            Check.fraction(x, "none", x.longer(0, 1), 0, 1);
            x.notice(last);
            Check.fraction(x, "all but the LAST", x.longer(0, 1), last - 1, 1);
            x.notice(Math.min(10, last + 1));
            x.set(1, 0, 10, last == 10 ? 7 : 6);
            Check.fraction(x, "all", x.longer(0, 1), last, 1);
        }
    }

    private static void whatNobodyHas() {
        Check.promise("What is lost in the mean that nobody has (v and both costs for each day lost)");
        StrikeDays x = Check.level("m1,99o1,98v97h10l10w0", 12, 13);
        Check.fraction(x, "the most", x.lost(0, 1), 2940, 1);
        x = Check.level("m1,0o1,0v0h10l10w0", 12, 13);
        Check.fraction(x, "what costs nothing", x.lost(0, 1), 0, 1);
        x = Check.level("m1,99o1,98v97h10l10w0", 12, 12);
        Check.fraction(x, "SETTLED on day 1", x.lost(0, 1), 0, 1);
        x = Check.level("m1,3m1,8o1,5o2,7v10h10l2w0", 12, 13);
        x.set(1, 1, 2, 12);
        // MEN 0 two days: 18 by a third, 20 by two thirds; MEN 1 one day: 23 and 25.
        Check.fraction(x, "in the mean", x.lost(0, 1), 63, 2);
        x = Check.level("m1,3o1,5o1,7o2,9v10h10l2w0", 12, 13);
        Check.fraction(x, "more SORTS of OWNERS", x.lost(0, 1), 41, 1);
        Check.fraction(x, "more SORTS of OWNERS, days", x.longer(0, 1), 2, 1);
        x = Check.level("m1,3m1,5m2,7o1,9v10h10l2w0", 12, 13);
        Check.fraction(x, "more SORTS of MEN", x.lost(0, 1), 49, 1);
        Check.fraction(x, "more SORTS of MEN, days", x.longer(0, 1), 2, 1);
    }

    private static void morningBits() {
        Check.promise("WAGES (bits 0 to 12)");
        StrikeDays x = Check.level("m1,0o1,99v0h1l1w0", 0, 13);
        Check.due("all of them", x.morning(0, 1, 0, 0), 0x1fff);
        x = Check.level("m1,0o1,0v99h1l1w0", 0, 13);
        Check.due("all of them, OWNERS have 99 more", x.morning(0, 1, 0, 0), 0x1fff);
        x = Check.level("m1,0o1,0v12h1l1w0", 0, 0);
        Check.due("none is better than the first day", x.morning(0, 1, 0, 0), 0);
        x = Check.level("m1,0o1,0v12h40l10w12", 0, 13);
        // 12 times 30 by the end: 9 times 40 is as much.
        Check.due("from 9 on", x.morning(0, 1, 0, 0), 0x1e00);
    }

    private static void morningNoLessAndOneMore() {
        Check.promise("both SORTS would have had no less by than by their RUN, one of them more");
        // On day 2 at 5: MEN 45, OWNERS 45; on day 1 by 4: 40 and 60, by 5: 50 and 50, by 6: 60 and 40.
        StrikeDays x = Check.level("m1,0o1,0v10h10l2w0", 5, 5);
        x.notice(2);
        Check.due("5 alone", x.morning(0, 1, 0, 0), 1 << 5);
        x = Check.level("m1,5o1,0v10h10l2w0", 5, 5);
        x.notice(2);
        Check.due("4 is no less for MEN", x.morning(0, 1, 0, 0), 1 << 4 | 1 << 5);
        x = Check.level("m1,4o1,0v10h10l2w0", 5, 5);
        x.notice(2);
        Check.due("4 is less by one", x.morning(0, 1, 0, 0), 1 << 5);
        x = Check.level("m1,0o1,5v10h10l2w0", 5, 5);
        x.notice(2);
        Check.due("6 is no less for OWNERS", x.morning(0, 1, 0, 0), 1 << 5 | 1 << 6);
        x = Check.level("m1,0o1,4v10h10l2w0", 5, 5);
        x.notice(2);
        Check.due("6 is less by one", x.morning(0, 1, 0, 0), 1 << 5);
        // A day costs OWNERS 1 and nothing else is there: 0 is 1 more for them, 1 is 1 more for MEN.
        x = Check.level("m1,0o1,1v0h1l1w0", 0, 13);
        Check.due("1 more for one of them", x.morning(0, 1, 0, 0), 3);
        // HORIZON 1 and v 0: all have nothing, and 0 on day 1 is no more.
        x = Check.level("m1,0o1,0v0h1l1w9", 0, 13);
        Check.due("as much for both", x.morning(0, 1, 0, 0), 0);
    }

    private static void lawIs(StrikeDays x, int due, long upper, long lower) {
        Check.due("law(0, 1)", x.law(0, 1), due);
        Check.due("its upper number", x.upper(), upper);
        Check.due("its lower number", x.lower(), lower);
    }

    private static void theLaw() {
        Check.promise("The law (NOTICE 1 .. 4, a JUDGE of 0 or 3 twelfths) ...; the first (NOTICE, then twelfths)");
        StrikeDays x = Check.level("m1,1o1,1h10l10w0", 6, 6);
        x.notice(9);
        x.judge(11, 10);
        lawIs(x, 10, 0, 1);
        Check.told(x, "NOTICE stays", x.told(6), 9);
        Check.told(x, "the JUDGE stays", x.told(7), 11);
        Check.told(x, "his WAGE stays", x.told(8), 10);
        x.set(1, 0, 1, 13);
        // Day 2, but for a quarter who have him on day 1.
        lawIs(x, 13, 3, 4);
        for (int day = 2; day <= 10; day++) {
            x.set(1, 0, day, 13);
        }
        // Three quarters of each day before: 3 less 3 times (3/4) to the tenth.
        lawIs(x, 13, 2968581, 1048576);
        x = Check.level("m1,1o1,1h10l1w0", 6, 13);
        lawIs(x, 13, 3, 4);
        x = Check.level("m1,1m1,1o1,1h10l1w0", 6, 13);
        x.set(1, 0, 1, 6);
        lawIs(x, 13, 3, 8);
    }
}
